import java.util.Arrays;

/**
 * Kinds of incidents in a tree: what a kind says by itself counts for all below it until one of them says otherwise.
 * Every row is made in the constructor and used again, so a call makes no object but the exception it throws.
 */
public final class IncidentKinds {
    private static final int NONE = -1;

    private static final int MOST_KINDS = 40;
    private static final int MOST_CHANGES = 200;
    private static final int MOST_UPGRADES = 100;
    private static final int MOST_INCIDENTS = 60;
    private static final int MOST_SENT_AT_ONCE = 100;
    private static final int MOST_SENT = 1_000;
    private static final int GREATEST_DAY = 9_999;
    private static final int GREATEST_CODE = 99;
    private static final int GREATEST_NEED = 20;
    private static final int SKILLS = 16;
    private static final int ALL_SKILLS = 0xFFFF;
    private static final int AREAS = 10;
    private static final int FINDINGS = 32;
    private static final int UNITS = 20;

    // The four words that a kind can say: priority, questions, service, code.
    private static final int WORDS = 4;
    private static final int CODE = 3;
    private static final int[] GREATEST_WORD = {9, 99, 4, GREATEST_CODE};
    private static final int[] WORD_WHEN_NOBODY_SAYS_IT = {9, 0, 0, 0};

    // A thing that changes is a word (0 .. 3) or the need of a skill (4 and more).
    private static final int THINGS = WORDS + SKILLS;

    private static final int CLOSED = 4;
    private static final int DEPTH = 5;
    private static final int FIRST_NEED = 10;

    private static final int SAYS_NOTHING = 0;
    private static final int INSTEAD = 1;
    private static final int AT_LEAST = 2;

    private int kinds;
    private final int[] parentOf = new int[MOST_KINDS];
    private final int[] closedFrom = new int[MOST_KINDS];
    private final Changes changes = new Changes();
    private final Rows areaRows = new Rows(AREAS);
    private final Rows upgradeRows = new Rows(FINDINGS);

    private int incidents;
    private final int[] kindOf = new int[MOST_INCIDENTS];
    private final int[] areaOf = new int[MOST_INCIDENTS];
    private final int[] becameAnother = new int[MOST_INCIDENTS];
    private final int[] sent = new int[MOST_INCIDENTS * SKILLS];

    private final int[] skillsOf = new int[UNITS];

    /** Promise 1: no kinds. */
    public IncidentKinds() {
    }

    /** Promise 2: one more kind below a parent (-1 none). */
    public int kind(int parent) throws IllegalArgumentException, UnsupportedOperationException {
        checkKnown(isKindOrNone(parent));
        checkRoom(kinds < MOST_KINDS);
        int kind = kinds;
        parentOf[kind] = parent;
        closedFrom[kind] = NONE;
        kinds++;
        return kind;
    }

    /** Promise 3: another parent (-1 none), at once. */
    public void parent(int kind, int parent) throws IllegalArgumentException, IllegalStateException {
        checkKnown(isKind(kind) && isKindOrNone(parent));
        checkState(parentOf[kind] != parent && !isSameOrAbove(kind, parent));
        parentOf[kind] = parent;
    }

    /** Promise 4: a change of a word from a day on (v -1: it says none from then on). */
    public void says(int kind, int what, int day, int v)
            throws IllegalArgumentException, IndexOutOfBoundsException, UnsupportedOperationException {
        checkKnown(isKind(kind) && isBelow(what, WORDS));
        checkRange(isDay(day) && v >= NONE && v <= GREATEST_WORD[what]);
        checkRoom(changes.hasRoom());
        // A word that is said replaces the inherited one, just as a need INSTEAD does.
        changes.tell(kind, what, day, v == NONE ? SAYS_NOTHING : INSTEAD, v);
    }

    /** Promise 5: a change of a need from a day on: how 0 none, 1 instead, 2 at least. */
    public void need(int kind, int skill, int day, int how, int count)
            throws IllegalArgumentException, IndexOutOfBoundsException, UnsupportedOperationException {
        checkKnown(isKind(kind) && isBelow(skill, SKILLS));
        checkRange(isDay(day) && how >= SAYS_NOTHING && how <= AT_LEAST && count >= 0 && count <= GREATEST_NEED);
        checkRoom(changes.hasRoom());
        changes.tell(kind, WORDS + skill, day, how, count);
    }

    /** Promise 6: closed from a day on (-1: it is not). */
    public void close(int kind, int day) throws IllegalArgumentException, IndexOutOfBoundsException {
        checkKnown(isKind(kind));
        checkRange(day == NONE || isDay(day));
        closedFrom[kind] = day;
    }

    /** Promise 7: a row by area (to -1: there is none any more). */
    public void area(int kind, int area, int to)
            throws IllegalArgumentException, IndexOutOfBoundsException, IllegalStateException {
        checkKnown(isKind(kind) && isKindOrNone(to));
        checkRange(isBelow(area, AREAS));
        checkState(!leadsTo(to, area, kind));
        areaRows.put(kind, area, to);
    }

    /** Promise 8: a row of an upgrade (to -1: none any more). */
    public void upgrade(int kind, int finding, int to) throws IllegalArgumentException,
            IndexOutOfBoundsException, IllegalStateException, UnsupportedOperationException {
        checkKnown(isKind(kind) && isKindOrNone(to));
        checkRange(isBelow(finding, FINDINGS));
        checkState(to != kind);
        // Only a row that is not there yet needs room.
        checkRoom(to == NONE || upgradeRows.target(kind, finding) != NONE || upgradeRows.size < MOST_UPGRADES);
        upgradeRows.put(kind, finding, to);
    }

    /** Promise 9: what a kind has on a day. */
    public int has(int kind, int what, int day) throws IllegalArgumentException, IndexOutOfBoundsException {
        checkKnown(isKind(kind) && (isBelow(what, DEPTH + 1) || isNeed(what)));
        checkRange(isDay(day));
        if (what == CLOSED) {
            return isClosed(kind, day) ? 1 : 0;
        }
        if (what == DEPTH) {
            return depth(kind);
        }
        return what < WORDS ? wordOf(kind, what, day) : needOf(kind, what - FIRST_NEED, day);
    }

    /** Promise 10: the kind that a kind is in an area. */
    public int in(int kind, int area) throws IllegalArgumentException, IndexOutOfBoundsException {
        checkKnown(isKind(kind));
        checkRange(isBelow(area, AREAS));
        return kindInArea(kind, area);
    }

    /** Promise 11: opens an incident. */
    public int open(int kind, int area, int day) throws IllegalArgumentException,
            IndexOutOfBoundsException, IllegalStateException, UnsupportedOperationException {
        checkKnown(isKind(kind));
        checkRange(isBelow(area, AREAS) && isDay(day));
        int opened = kindInArea(kind, area);
        checkState(!isClosed(opened, day));
        checkRoom(incidents < MOST_INCIDENTS);
        int incident = incidents;
        kindOf[incident] = opened;
        areaOf[incident] = area;
        incidents++;
        return incident;
    }

    /** Promise 12: something is found: the kind that the incident has then. */
    public int found(int incident, int finding, int day)
            throws IllegalArgumentException, IndexOutOfBoundsException, IllegalStateException {
        checkKnown(isIncident(incident));
        checkRange(isBelow(finding, FINDINGS) && isDay(day));
        int to = upgradeOf(kindOf[incident], finding);
        checkState(to != NONE && !isClosed(to, day));
        // A row of a kind above can name the very kind that the incident has: then it becomes no other one.
        if (to != kindOf[incident]) {
            kindOf[incident] = to;
            becameAnother[incident]++;
        }
        return to;
    }

    /** Promise 13: n more of a skill are sent: how many there are now. */
    public int send(int incident, int skill, int n)
            throws IllegalArgumentException, IndexOutOfBoundsException, UnsupportedOperationException {
        checkKnown(isIncident(incident) && isBelow(skill, SKILLS));
        checkRange(n >= 1 && n <= MOST_SENT_AT_ONCE);
        int slot = incident * SKILLS + skill;
        checkRoom(sent[slot] + n <= MOST_SENT);
        sent[slot] += n;
        return sent[slot];
    }

    /** Promise 14: what is missing of a skill on a day. */
    public int missing(int incident, int skill, int day) throws IllegalArgumentException, IndexOutOfBoundsException {
        checkKnown(isIncident(incident) && isBelow(skill, SKILLS));
        checkRange(isDay(day));
        return Math.max(0, needOf(kindOf[incident], skill, day) - sent[incident * SKILLS + skill]);
    }

    /** Promise 15: of an incident 0 its kind, 1 its area, 2 how often it became another kind. */
    public int incident(int incident, int what) throws IllegalArgumentException {
        checkKnown(isIncident(incident) && isBelow(what, 3));
        switch (what) {
            case 0:
                return kindOf[incident];
            case 1:
                return areaOf[incident];
            default:
                return becameAnother[incident];
        }
    }

    /** Promise 16: a unit's skills, as bits. */
    public void unit(int unit, int skills) throws IllegalArgumentException, IndexOutOfBoundsException {
        checkKnown(isBelow(unit, UNITS));
        checkRange(skills >= 0 && skills <= ALL_SKILLS);
        skillsOf[unit] = skills;
    }

    /** Promise 17: the i-th kind that is not covered on a day; -1 when there are not so many. */
    public int uncovered(int day, int i) throws IndexOutOfBoundsException {
        checkRange(isDay(day) && i >= 0);
        int nobodyHas = ALL_SKILLS & ~skillsOfAllUnits();
        int left = i;
        for (int kind = 0; kind < kinds; kind++) {
            if (!isClosed(kind, day) && needsOneOf(kind, nobodyHas, day)) {
                if (left == 0) {
                    return kind;
                }
                left--;
            }
        }
        return NONE;
    }

    /** Promise 18: how many incidents have a code on a day, by the kinds that they have. */
    public int coded(int code, int day) throws IndexOutOfBoundsException {
        checkRange(code >= 0 && code <= GREATEST_CODE && isDay(day));
        int having = 0;
        for (int incident = 0; incident < incidents; incident++) {
            if (wordOf(kindOf[incident], CODE, day) == code) {
                having++;
            }
        }
        return having;
    }

    /** Promise 19: how many 0 kinds, 1 changes, 2 rows by area, 3 rows of upgrades, 4 incidents. */
    public int count(int what) throws IllegalArgumentException {
        checkKnown(isBelow(what, 5));
        switch (what) {
            case 0:
                return kinds;
            case 1:
                return changes.size;
            case 2:
                return areaRows.size;
            case 3:
                return upgradeRows.size;
            default:
                return incidents;
        }
    }

    // Every call of the face asks these in this order, which is the document's order of refusals.

    private static void checkKnown(boolean known) {
        if (!known) {
            throw new IllegalArgumentException("an unknown number");
        }
    }

    private static void checkRange(boolean inRange) {
        if (!inRange) {
            throw new IndexOutOfBoundsException("a number outside its range");
        }
    }

    private static void checkState(boolean allowed) {
        if (!allowed) {
            throw new IllegalStateException("not in this state");
        }
    }

    private static void checkRoom(boolean room) {
        if (!room) {
            throw new UnsupportedOperationException("no room");
        }
    }

    private boolean isKind(int kind) {
        return isBelow(kind, kinds);
    }

    private boolean isKindOrNone(int kind) {
        return kind == NONE || isKind(kind);
    }

    private boolean isIncident(int incident) {
        return isBelow(incident, incidents);
    }

    private static boolean isDay(int day) {
        return day >= 0 && day <= GREATEST_DAY;
    }

    private static boolean isNeed(int what) {
        return what >= FIRST_NEED && what < FIRST_NEED + SKILLS;
    }

    private static boolean isBelow(int number, int bound) {
        return number >= 0 && number < bound;
    }

    // Parents and rows by area never come around, so a walk along them has fewer steps than there are kinds.

    private boolean isSameOrAbove(int kind, int start) {
        int at = start;
        for (int step = 0; step < MOST_KINDS && isKind(at); step++) {
            if (at == kind) {
                return true;
            }
            at = parentOf[at];
        }
        return false;
    }

    private int depth(int kind) {
        int above = 0;
        int at = parentOf[kind];
        for (int step = 0; step < MOST_KINDS && isKind(at); step++) {
            above++;
            at = parentOf[at];
        }
        return above;
    }

    private boolean isClosed(int kind, int day) {
        int at = kind;
        for (int step = 0; step < MOST_KINDS && isKind(at); step++) {
            if (closedFrom[at] != NONE && closedFrom[at] <= day) {
                return true;
            }
            at = parentOf[at];
        }
        return false;
    }

    private int wordOf(int kind, int word, int day) {
        return inherited(kind, word, day, WORD_WHEN_NOBODY_SAYS_IT[word]);
    }

    private int needOf(int kind, int skill, int day) {
        return inherited(kind, WORDS + skill, day, 0);
    }

    /** Walks up to the first kind that says INSTEAD; what was asked for AT LEAST on the way still counts. */
    private int inherited(int kind, int thing, int day, int whenNobodySaysIt) {
        int least = 0;
        int at = kind;
        for (int step = 0; step < MOST_KINDS && isKind(at); step++) {
            int change = changes.latest(at, thing, day);
            if (change != NONE && changes.hows[change] == INSTEAD) {
                return Math.max(least, changes.values[change]);
            }
            if (change != NONE && changes.hows[change] == AT_LEAST) {
                least = Math.max(least, changes.values[change]);
            }
            at = parentOf[at];
        }
        return Math.max(least, whenNobodySaysIt);
    }

    private int kindInArea(int kind, int area) {
        int at = kind;
        for (int step = 0; step < MOST_KINDS; step++) {
            int to = areaRows.target(at, area);
            if (!isKind(to)) {
                return at;
            }
            at = to;
        }
        return at;
    }

    private boolean leadsTo(int start, int area, int kind) {
        int at = start;
        for (int step = 0; step < MOST_KINDS && isKind(at); step++) {
            if (at == kind) {
                return true;
            }
            at = areaRows.target(at, area);
        }
        return false;
    }

    private int upgradeOf(int kind, int finding) {
        int at = kind;
        for (int step = 0; step < MOST_KINDS && isKind(at); step++) {
            int to = upgradeRows.target(at, finding);
            if (to != NONE) {
                return to;
            }
            at = parentOf[at];
        }
        return NONE;
    }

    private int skillsOfAllUnits() {
        int skills = 0;
        for (int unit = 0; unit < UNITS; unit++) {
            skills |= skillsOf[unit];
        }
        return skills;
    }

    private boolean needsOneOf(int kind, int skills, int day) {
        for (int skill = 0; skill < SKILLS; skill++) {
            if ((skills >> skill & 1) == 1 && needOf(kind, skill, day) > 0) {
                return true;
            }
        }
        return false;
    }

    /** Rows from a kind and a column (an area, a finding) to a kind. */
    private static final class Rows {
        private final int columns;
        private final int[] targets;
        private int size;

        private Rows(int columns) {
            this.columns = columns;
            targets = new int[MOST_KINDS * columns];
            Arrays.fill(targets, NONE);
        }

        private int target(int kind, int column) {
            return targets[kind * columns + column];
        }

        private void put(int kind, int column, int to) {
            int slot = kind * columns + column;
            if (targets[slot] != NONE) {
                size--;
            }
            if (to != NONE) {
                size++;
            }
            targets[slot] = to;
        }
    }

    /** Changes told with a day. Those of one kind for one thing are chained, so that a question passes over all others. */
    private static final class Changes {
        private final int[] newest = new int[MOST_KINDS * THINGS];
        private final int[] toldBefore = new int[MOST_CHANGES];
        private final int[] days = new int[MOST_CHANGES];
        private final int[] hows = new int[MOST_CHANGES];
        private final int[] values = new int[MOST_CHANGES];
        private int size;

        private Changes() {
            Arrays.fill(newest, NONE);
        }

        private boolean hasRoom() {
            return size < MOST_CHANGES;
        }

        private void tell(int kind, int thing, int day, int how, int value) {
            int chain = kind * THINGS + thing;
            days[size] = day;
            hows[size] = how;
            values[size] = value;
            toldBefore[size] = newest[chain];
            newest[chain] = size;
            size++;
        }

        /** The change that counts on a day: the chain runs from the newest on, so of one day the first one met wins. */
        private int latest(int kind, int thing, int day) {
            int best = NONE;
            int at = newest[kind * THINGS + thing];
            for (int step = 0; step < size && at != NONE; step++) {
                if (days[at] <= day && (best == NONE || days[at] > days[best])) {
                    best = at;
                }
                at = toldBefore[at];
            }
            return best;
        }
    }
}
