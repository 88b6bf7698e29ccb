import java.util.ArrayList;
import java.util.HashMap;
import java.util.List;
import java.util.Map;

/** The document's terms written down once more, as plainly as can be and in another way than the class: what is due. */
final class Model {
    private record Change(int kind, String thing, int day, int how, int value) {
    }

    private record Row(int kind, int column) {
    }

    private static final int[] GREATEST = {9, 99, 4, 99};

    private final List<Integer> parents = new ArrayList<>();
    private final Map<Integer, Integer> closed = new HashMap<>();
    private final List<Change> changes = new ArrayList<>();
    private final Map<Row, Integer> areas = new HashMap<>();
    private final Map<Row, Integer> upgrades = new HashMap<>();
    private final List<int[]> incidents = new ArrayList<>();
    private final Map<Row, Integer> sent = new HashMap<>();
    private final int[] units = new int[20];

    /** What a call is due to answer: a number, 'ok', or a refusal's name. */
    String due(String method, int... a) {
        String refusal = refusal(method, a);
        return refusal != null ? refusal : answer(method, a);
    }

    private String refusal(String method, int[] a) {
        if (unknown(method, a)) {
            return "unknown";
        }
        if (outside(method, a)) {
            return "range";
        }
        if (stateForbids(method, a)) {
            return "state";
        }
        return noRoom(method, a) ? "room" : null;
    }

    private boolean unknown(String method, int[] a) {
        switch (method) {
            case "kind":
                return a[0] != -1 && !kindIs(a[0]);
            case "parent":
                return !kindIs(a[0]) || a[1] != -1 && !kindIs(a[1]);
            case "says":
                return !kindIs(a[0]) || a[1] < 0 || a[1] > 3;
            case "need":
                return !kindIs(a[0]) || a[1] < 0 || a[1] > 15;
            case "close", "in", "open":
                return !kindIs(a[0]);
            case "area", "upgrade":
                return !kindIs(a[0]) || a[2] != -1 && !kindIs(a[2]);
            case "has":
                return !kindIs(a[0]) || a[1] < 0 || a[1] > 25 || a[1] > 5 && a[1] < 10;
            case "found":
                return !incidentIs(a[0]);
            case "send", "missing":
                return !incidentIs(a[0]) || a[1] < 0 || a[1] > 15;
            case "incident":
                return !incidentIs(a[0]) || a[1] < 0 || a[1] > 2;
            case "unit":
                return a[0] < 0 || a[0] > 19;
            case "count":
                return a[0] < 0 || a[0] > 4;
            default:
                return false;
        }
    }

    private boolean outside(String method, int[] a) {
        switch (method) {
            case "says":
                return !dayIs(a[2]) || a[3] < -1 || a[3] > GREATEST[a[1]];
            case "need":
                return !dayIs(a[2]) || a[3] < 0 || a[3] > 2 || a[4] < 0 || a[4] > 20;
            case "close":
                return a[1] != -1 && !dayIs(a[1]);
            case "area", "in":
                return a[1] < 0 || a[1] > 9;
            case "upgrade":
                return a[1] < 0 || a[1] > 31;
            case "has", "missing":
                return !dayIs(a[2]);
            case "open":
                return a[1] < 0 || a[1] > 9 || !dayIs(a[2]);
            case "found":
                return a[1] < 0 || a[1] > 31 || !dayIs(a[2]);
            case "send":
                return a[2] < 1 || a[2] > 100;
            case "unit":
                return (a[1] & 0xFFFF0000) != 0;
            case "uncovered":
                return !dayIs(a[0]) || a[1] < 0;
            case "coded":
                return a[0] < 0 || a[0] > 99 || !dayIs(a[1]);
            default:
                return false;
        }
    }

    private boolean stateForbids(String method, int[] a) {
        switch (method) {
            case "parent":
                return parents.get(a[0]) == a[1] || a[1] != -1 && line(a[1]).contains(a[0]);
            case "area":
                return a[2] != -1 && trail(a[2], a[1]).contains(a[0]);
            case "upgrade":
                return a[0] == a[2];
            case "open":
                return closedOn(last(trail(a[0], a[1])), a[2]);
            case "found":
                int to = upgraded(incidents.get(a[0])[0], a[1]);
                return to == -1 || closedOn(to, a[2]);
            default:
                return false;
        }
    }

    private boolean noRoom(String method, int[] a) {
        switch (method) {
            case "kind":
                return parents.size() == 40;
            case "says", "need":
                return changes.size() == 200;
            case "upgrade":
                return a[2] != -1 && !upgrades.containsKey(new Row(a[0], a[1])) && upgrades.size() == 100;
            case "open":
                return incidents.size() == 60;
            case "send":
                return sentOf(a[0], a[1]) + a[2] > 1000;
            default:
                return false;
        }
    }

    private String answer(String method, int[] a) {
        switch (method) {
            case "kind":
                parents.add(a[0]);
                return "" + (parents.size() - 1);
            case "parent":
                parents.set(a[0], a[1]);
                return "ok";
            case "says":
                changes.add(new Change(a[0], "word " + a[1], a[2], a[3] == -1 ? 0 : 1, a[3]));
                return "ok";
            case "need":
                changes.add(new Change(a[0], "skill " + a[1], a[2], a[3], a[4]));
                return "ok";
            case "close":
                closed.put(a[0], a[1] == -1 ? Integer.MAX_VALUE : a[1]);
                return "ok";
            case "area":
                return put(areas, a);
            case "upgrade":
                return put(upgrades, a);
            case "open":
                incidents.add(new int[] {last(trail(a[0], a[1])), a[1], 0});
                return "" + (incidents.size() - 1);
            case "found":
                return "" + become(incidents.get(a[0]), a[1]);
            case "send":
                return "" + sent.merge(new Row(a[0], a[1]), a[2], Integer::sum);
            case "unit":
                units[a[0]] = a[1];
                return "ok";
            default:
                return "" + asked(method, a);
        }
    }

    private int asked(String method, int[] a) {
        switch (method) {
            case "has":
                return hasOn(a[0], a[1], a[2]);
            case "in":
                return last(trail(a[0], a[1]));
            case "missing":
                return Math.max(0, needOn(incidents.get(a[0])[0], a[1], a[2]) - sentOf(a[0], a[1]));
            case "incident":
                return incidents.get(a[0])[a[1]];
            case "uncovered":
                List<Integer> all = uncoveredOn(a[0]);
                return a[1] < all.size() ? all.get(a[1]) : -1;
            case "coded":
                return (int) incidents.stream().filter(i -> wordOn(i[0], 3, a[1]) == a[0]).count();
            default:
                return List.of(parents.size(), changes.size(), areas.size(), upgrades.size(), incidents.size()).get(a[0]);
        }
    }

    private boolean kindIs(int kind) {
        return kind >= 0 && kind < parents.size();
    }

    private boolean incidentIs(int incident) {
        return incident >= 0 && incident < incidents.size();
    }

    private static boolean dayIs(int day) {
        return day >= 0 && day <= 9999;
    }

    private static int last(List<Integer> list) {
        return list.get(list.size() - 1);
    }

    private List<Integer> line(int kind) {
        List<Integer> line = new ArrayList<>();
        for (int at = kind; at != -1; at = parents.get(at)) {
            line.add(at);
        }
        return line;
    }

    private List<Integer> trail(int kind, int area) {
        List<Integer> trail = new ArrayList<>();
        for (Integer at = kind; at != null; at = areas.get(new Row(at, area))) {
            trail.add(at);
        }
        return trail;
    }

    private static String put(Map<Row, Integer> rows, int[] a) {
        if (a[2] == -1) {
            rows.remove(new Row(a[0], a[1]));
        } else {
            rows.put(new Row(a[0], a[1]), a[2]);
        }
        return "ok";
    }

    private int upgraded(int kind, int finding) {
        for (int at : line(kind)) {
            if (upgrades.containsKey(new Row(at, finding))) {
                return upgrades.get(new Row(at, finding));
            }
        }
        return -1;
    }

    private int become(int[] incident, int finding) {
        int to = upgraded(incident[0], finding);
        incident[2] += to == incident[0] ? 0 : 1;
        incident[0] = to;
        return to;
    }

    private int sentOf(int incident, int skill) {
        return sent.getOrDefault(new Row(incident, skill), 0);
    }

    private boolean closedOn(int kind, int day) {
        return line(kind).stream().anyMatch(at -> closed.getOrDefault(at, Integer.MAX_VALUE) <= day);
    }

    private int hasOn(int kind, int what, int day) {
        if (what == 4) {
            return closedOn(kind, day) ? 1 : 0;
        }
        if (what == 5) {
            return line(kind).size() - 1;
        }
        return what < 4 ? wordOn(kind, what, day) : needOn(kind, what - 10, day);
    }

    private Change changeOn(int kind, String thing, int day) {
        Change best = null;
        for (Change change : changes) {
            if (change.kind == kind && change.thing.equals(thing) && change.day <= day
                    && (best == null || change.day >= best.day)) {
                best = change;
            }
        }
        return best;
    }

    private int wordOn(int kind, int word, int day) {
        if (kind == -1) {
            return word == 0 ? 9 : 0;
        }
        Change change = changeOn(kind, "word " + word, day);
        return change == null || change.value == -1 ? wordOn(parents.get(kind), word, day) : change.value;
    }

    private int needOn(int kind, int skill, int day) {
        if (kind == -1) {
            return 0;
        }
        Change change = changeOn(kind, "skill " + skill, day);
        if (change != null && change.how == 1) {
            return change.value;
        }
        int above = needOn(parents.get(kind), skill, day);
        return change != null && change.how == 2 ? Math.max(change.value, above) : above;
    }

    private List<Integer> uncoveredOn(int day) {
        List<Integer> all = new ArrayList<>();
        for (int kind = 0; kind < parents.size(); kind++) {
            if (!closedOn(kind, day) && needsWhatNobodyHas(kind, day)) {
                all.add(kind);
            }
        }
        return all;
    }

    private boolean needsWhatNobodyHas(int kind, int day) {
        for (int skill = 0; skill < 16; skill++) {
            boolean had = false;
            for (int skills : units) {
                had |= (skills & 1 << skill) != 0;
            }
            if (!had && needOn(kind, skill, day) > 0) {
                return true;
            }
        }
        return false;
    }
}
