import java.util.ArrayList;
import java.util.List;

/**
 * 'Refusals, in this order: an unknown number; a number outside its range; not in this state; no room. What is refused
 * changes nothing.' For every call that can be refused for more than one reason: each mixture of arguments that are
 * fine, unknown and outside their range, in a state that forbids the call, in one without room, and in one with both.
 */
public final class OrderTest {
    /** Four kinds, two incidents, and something said of every sort, so that it would be seen if a refused call did it. */
    private static final String WORLD = """
        kind -1 = 0
        kind 0 = 1
        kind 1 = 2
        kind -1 = 3
        says 0 3 5 10 = ok
        says 3 3 5 30 = ok
        need 0 0 0 1 3 = ok
        need 1 15 5 2 4 = ok
        need 3 7 0 1 1 = ok
        close 3 6 = ok
        area 0 4 1 = ok
        area 1 4 2 = ok
        upgrade 0 0 3 = ok
        upgrade 1 31 0 = ok
        open 0 4 0 = 0
        open 3 9 0 = 1
        send 0 0 7 = 7
        unit 0 1 = ok
        unit 19 128 = ok
        """;

    private static final String KIND = "3 / -1 4 MIN MAX /";
    private static final String KIND_OR_NONE = "-1 3 / -2 4 MIN MAX /";
    private static final String INCIDENT = "1 / -1 2 MIN MAX /";
    private static final String SKILL = "0 15 / -1 16 MIN MAX /";
    private static final String DAY = "0 9999 / / -1 10000 MIN MAX";
    private static final String AREA = "0 9 / / -1 10 MIN MAX";
    private static final String FINDING = "0 31 / / -1 32 MIN MAX";

    public static void main(String[] args) {
        kind();
        parent();
        says();
        need();
        area();
        upgrade();
        open();
        found();
        send();
        callsThatOnlyNumbersRefuse();
        Calls.end();
    }

    private static void kind() {
        order("no kind is made", WORLD, "kind", "fine", KIND_OR_NONE);
        order("40 kinds", WORLD + "36 * kind 2\n", "kind", "room", "-1 0 39 / -2 40 MIN MAX /");
    }

    private static void parent() {
        order("no parent is changed", WORLD, "parent", "fine", KIND, "0 / -2 4 MIN MAX /");
        order("below the kind itself", WORLD, "parent", "state", "0 / -1 4 MIN MAX /", "0 1 2 / -2 4 MIN MAX /");
        order("it is so", WORLD, "parent", "state", "2 / -1 4 MIN MAX /", "1 / -2 4 MIN MAX /");
        order("it has none", WORLD, "parent", "state", "3 / -1 4 MIN MAX /", "-1 / -2 4 MIN MAX /");
    }

    private static void says() {
        for (String setup : List.of(WORLD, WORLD + "195 * says 0 3 5 10\n")) {
            String otherwise = setup.equals(WORLD) ? "fine" : "room";
            order("says, what 0", setup, "says", otherwise, KIND, "0 / -1 4 MIN MAX /", DAY, "-1 9 / / -2 10 MIN MAX");
            order("says, what 1", setup, "says", otherwise, KIND, "1 / -1 4 MIN MAX /", DAY, "-1 99 / / -2 100 MIN MAX");
            order("says, what 2", setup, "says", otherwise, KIND, "2 / -1 4 MIN MAX /", DAY, "-1 4 / / -2 5 MIN MAX");
            order("says, what 3", setup, "says", otherwise, KIND, "3 / -1 4 MIN MAX /", DAY, "-1 99 / / -2 100 MIN MAX");
        }
    }

    private static void need() {
        String how = "0 1 2 / / -1 3 MIN MAX";
        String count = "0 20 / / -1 21 MIN MAX";
        order("no need is changed", WORLD, "need", "fine", KIND, SKILL, DAY, how, count);
        order("200 changes", WORLD + "195 * need 0 0 0 1 3\n", "need", "room", KIND, SKILL, DAY, how, count);
    }

    private static void area() {
        order("no row is changed", WORLD, "area", "fine", KIND, AREA, KIND_OR_NONE);
        order("it would come around", WORLD, "area", "state",
            "2 / -1 4 MIN MAX /", "4 / / -1 10 MIN MAX", "0 1 2 / -2 4 MIN MAX /");
    }

    private static void upgrade() {
        String full = WORLD + hundredUpgrades();
        order("no upgrade is changed", WORLD, "upgrade", "fine", KIND, FINDING, "-1 0 / -2 4 MIN MAX /");
        order("to is the kind", WORLD, "upgrade", "state", KIND, FINDING, "3 / -2 4 MIN MAX /");
        order("to is the kind, and no room", full, "upgrade", "state", KIND, FINDING, "3 / -2 4 MIN MAX /");
        order("100 rows", full, "upgrade", "room", KIND, "30 31 / / -1 32 MIN MAX", "0 1 2 / -2 4 MIN MAX /");
    }

    /** The rows that the world still lacks to have 100, none of them for the last findings of kind 3. */
    private static String hundredUpgrades() {
        StringBuilder lines = new StringBuilder();
        int rows = 2;
        for (int slot = 1; rows < 100; slot++) {
            boolean inTheWorld = slot == 32 + 31;
            if (!inTheWorld) {
                lines.append("upgrade ").append(slot / 32).append(' ').append(slot % 32).append(' ')
                    .append((slot / 32 + 1) % 4).append(" = ok\n");
                rows++;
            }
        }
        return lines + "count 3 = 100\n";
    }

    private static void open() {
        String full = WORLD + "58 * open 3 0 0\n";
        String closed = "6 9999 / / -1 10000 MIN MAX";
        order("no incident is opened", WORLD, "open", "fine", KIND, AREA, DAY);
        order("the kind is closed", WORLD, "open", "state", KIND, AREA, closed);
        order("the kind is closed, and no room", full, "open", "state", KIND, AREA, closed);
        order("60 incidents", full, "open", "room", KIND, AREA, "0 5 / / -1 10000 MIN MAX");
    }

    private static void found() {
        order("nothing is found", WORLD, "found", "fine", "0 / -1 2 MIN MAX /", "31 / / -1 32 MIN MAX", DAY);
        order("no row counts", WORLD, "found", "state", INCIDENT, FINDING, DAY);
        order("the row's kind is closed", WORLD, "found", "state",
            "0 / -1 2 MIN MAX /", "0 / / -1 32 MIN MAX", "6 9999 / / -1 10000 MIN MAX");
    }

    private static void send() {
        String full = WORLD + "10 * send 1 0 100\n10 * send 1 15 100\n";
        order("nothing is sent", WORLD, "send", "fine", INCIDENT, SKILL, "1 / / 0 -1 101 MIN MAX");
        order("1,000 are sent", full, "send", "room", INCIDENT, SKILL, "1 100 / / 0 -1 101 MIN MAX");
    }

    private static void callsThatOnlyNumbersRefuse() {
        order("close", WORLD, "close", "fine", KIND, "0 / / -2 10000 MIN MAX");
        order("has", WORLD, "has", "fine", KIND, "0 5 10 25 / -1 6 9 26 MIN MAX /", DAY);
        order("in", WORLD, "in", "fine", KIND, AREA);
        order("missing", WORLD, "missing", "fine", INCIDENT, SKILL, DAY);
        order("incident", WORLD, "incident", "fine", INCIDENT, "0 2 / -1 3 MIN MAX /");
        order("unit", WORLD, "unit", "fine", "0 19 / -1 20 MIN MAX /", "0 65535 / / -1 65536 MIN MAX");
        order("uncovered", WORLD, "uncovered", "fine", DAY, "0 / / -1 MIN");
        order("coded", WORLD, "coded", "fine", "0 99 / / -1 100 MIN MAX", DAY);
        order("count", WORLD, "count", "fine", "0 4 / -1 5 MIN MAX /");
    }

    /**
     * All mixtures of the arguments' values, each argument told as 'fine / unknown / outside its range'. With fine ones
     * alone the call is due to be refused as 'otherwise' says; if that is 'fine', those calls are left out.
     */
    private static void order(String title, String setup, String method, String otherwise, String... arguments) {
        List<String> calls = new ArrayList<>(List.of(method));
        List<String> dues = new ArrayList<>(List.of(otherwise));
        for (String argument : arguments) {
            List<String> longerCalls = new ArrayList<>();
            List<String> longerDues = new ArrayList<>();
            for (int i = 0; i < calls.size(); i++) {
                addValues(calls.get(i), dues.get(i), argument, longerCalls, longerDues);
            }
            calls = longerCalls;
            dues = longerDues;
        }
        List<String> refused = new ArrayList<>();
        for (int i = 0; i < calls.size(); i++) {
            if (!dues.get(i).equals("fine")) {
                refused.add(calls.get(i) + " = " + dues.get(i));
            }
        }
        Untouched.check("the order of refusals, " + method + ": " + title, setup, refused);
    }

    private static void addValues(String call, String due, String argument, List<String> calls, List<String> dues) {
        String[] sorts = argument.split("/", -1);
        for (int sort = 0; sort < sorts.length; sort++) {
            for (String value : sorts[sort].trim().split("\\s+")) {
                if (!value.isEmpty()) {
                    calls.add(call + " " + value);
                    dues.add(sort == 0 ? due : firstOf(due, sort == 1 ? "unknown" : "range"));
                }
            }
        }
    }

    private static String firstOf(String due, String reason) {
        return due.equals("unknown") ? due : reason;
    }
}
