/** What is empty: a new object's answers; a kind that says nothing, up to one without a parent; a unit without skills. */
public final class EmptyTest {
    private static final int[] DEPTHS = {1, 2, 39};

    public static void main(String[] args) {
        newObject();
        newObjectIsRefused();
        objectsAreApart();
        kindThatSaysNothing();
        kindsAboveThatSayNothing();
        onlyTheTopmostSays();
        saysNothingAnyMore();
        incidentWithoutAnything();
        unitWithoutSkills();
        nothingNeeded();
        rowsThatAreNotThere();
        Calls.end();
    }

    private static void newObject() {
        Calls.on("a new object: no kinds, no changes, no rows, no incidents").run("""
            count 0 = 0
            count 1 = 0
            count 2 = 0
            count 3 = 0
            count 4 = 0
            uncovered 0 0 = -1
            uncovered 9999 0 = -1
            uncovered 0 MAX = -1
            coded 0 0 = 0
            coded 0 9999 = 0
            coded 99 0 = 0
            kind -1 = 0
            """);
        for (int code = 0; code < 100; code++) {
            Calls.on("a new object: no incident has a code").run("coded " + code + " 5 = 0");
        }
    }

    private static void newObjectIsRefused() {
        for (int number : new int[] {0, 1, -1, 39, 59}) {
            Untouched.check("a new object: no kind and no incident is known", "", """
                parent ? -1 = unknown
                parent ? ? = unknown
                says ? 0 0 0 = unknown
                need ? 0 0 0 0 = unknown
                close ? -1 = unknown
                area ? 0 -1 = unknown
                area ? 0 ? = unknown
                upgrade ? 0 -1 = unknown
                upgrade ? 0 ? = unknown
                has ? 0 0 = unknown
                has ? 5 0 = unknown
                in ? 0 = unknown
                open ? 0 0 = unknown
                found ? 0 0 = unknown
                send ? 0 1 = unknown
                missing ? 0 0 = unknown
                incident ? 0 = unknown""".replace("?", "" + number));
        }
        Untouched.check("a new object: no parent is known", "", "kind 0 = unknown\nkind 1 = unknown\nkind -2 = unknown");
    }

    private static void objectsAreApart() {
        Calls.on("one object, much told").run("""
            2 * kind -1
            says 0 0 0 1 = ok
            need 0 0 0 1 1 = ok
            area 0 0 1 = ok
            upgrade 0 0 1 = ok
            open 0 0 0 = 0
            send 0 0 5 = 5
            unit 0 65535 = ok
            """);
        Calls.on("a new object after another one knows nothing of it").run("""
            count 0 = 0
            count 1 = 0
            count 2 = 0
            count 3 = 0
            count 4 = 0
            2 * kind -1
            has 0 0 0 = 9
            in 0 0 = 0
            open 0 0 0 = 0
            found 0 0 0 = state
            send 0 0 1 = 1
            need 0 0 0 1 1 = ok
            uncovered 0 0 = 0
            """);
    }

    private static void kindThatSaysNothing() {
        Calls calls = Calls.on("a kind that says nothing and has no parent").run("kind -1 = 0");
        askOneThatSaysNothing(calls, 0, 0);
    }

    private static void kindsAboveThatSayNothing() {
        for (int depth : DEPTHS) {
            Calls calls = Calls.on("a kind with " + depth + " above it, and none says anything").run(chain(depth));
            askOneThatSaysNothing(calls, depth, depth);
        }
    }

    /** A kind without a parent, and so many one below the other. */
    private static String chain(int depth) {
        StringBuilder lines = new StringBuilder("kind -1 = 0\n");
        for (int kind = 1; kind <= depth; kind++) {
            lines.append("kind ").append(kind - 1).append(" = ").append(kind).append('\n');
        }
        return lines.toString();
    }

    private static void onlyTheTopmostSays() {
        for (int depth : DEPTHS) {
            Calls calls = Calls.on("a kind with " + depth + " above it, and only the topmost says something");
            calls.run(chain(depth)).run("""
                says 0 0 0 0 = ok
                says 0 1 0 98 = ok
                says 0 2 0 4 = ok
                says 0 3 0 97 = ok
                need 0 0 0 2 20 = ok
                need 0 15 0 1 19 = ok
                upgrade 0 31 1 = ok
                has ? 0 0 = 0
                has ? 1 0 = 98
                has ? 2 0 = 4
                has ? 3 0 = 97
                has ? 10 0 = 20
                has ? 25 0 = 19
                open ? 0 0 = 0
                coded 97 0 = 1
                missing 0 0 0 = 20
                found 0 31 0 = 1
                uncovered 0 ? = ?
                close 0 5 = ok
                has ? 4 4 = 0
                has ? 4 5 = 1
                uncovered 5 0 = -1
                open ? 0 5 = state
                """.replace("?", "" + depth));
        }
    }

    private static void askOneThatSaysNothing(Calls calls, int kind, int depth) {
        calls.run("has " + kind + " 5 0 = " + depth);
        for (int day : new int[] {0, 1, 9999}) {
            String due = """
                has ? 0 ! = 9
                has ? 1 ! = 0
                has ? 2 ! = 0
                has ? 3 ! = 0
                has ? 4 ! = 0
                """;
            calls.run(due.replace("?", "" + kind).replace("!", "" + day));
            for (int skill = 0; skill < 16; skill++) {
                calls.run("has " + kind + " " + (10 + skill) + " " + day + " = 0");
            }
        }
        for (int area = 0; area < 10; area++) {
            calls.run("in " + kind + " " + area + " = " + kind);
        }
        calls.run("uncovered 0 0 = -1\nopen " + kind + " 0 9999 = 0\n");
        for (int finding = 0; finding < 32; finding++) {
            calls.run("found 0 " + finding + " 0 = state");
        }
    }

    private static void saysNothingAnyMore() {
        Calls.on("a kind that says none any more has what one has that never said anything").run("""
            kind -1 = 0
            kind 0 = 1
            says 0 0 0 0 = ok
            says 0 1 0 7 = ok
            says 0 2 0 4 = ok
            says 0 3 0 9 = ok
            need 0 5 0 1 6 = ok
            need 1 6 0 2 6 = ok
            says 0 0 3 -1 = ok
            says 0 1 3 -1 = ok
            says 0 2 3 -1 = ok
            says 0 3 3 -1 = ok
            need 0 5 3 0 0 = ok
            need 1 6 3 0 0 = ok
            has 1 0 2 = 0
            has 1 1 2 = 7
            has 1 2 2 = 4
            has 1 3 2 = 9
            has 1 15 2 = 6
            has 1 16 2 = 6
            has 1 0 3 = 9
            has 1 1 3 = 0
            has 1 2 3 = 0
            has 1 3 3 = 0
            has 1 15 3 = 0
            has 1 16 3 = 0
            """);
        Calls.on("none where none was said says nothing").run("""
            kind -1 = 0
            kind 0 = 1
            says 0 0 0 4 = ok
            says 1 0 0 -1 = ok
            need 0 0 0 1 4 = ok
            need 1 0 0 0 0 = ok
            has 1 0 0 = 4
            has 1 10 0 = 4
            says 0 0 1 -1 = ok
            need 0 0 1 0 20 = ok
            has 0 0 1 = 9
            has 1 10 1 = 0
            """);
    }

    private static void incidentWithoutAnything() {
        Calls calls = Calls.on("a new incident: nothing was sent, it never became another kind").run("""
            kind -1 = 0
            open 0 0 0 = 0
            incident 0 0 = 0
            incident 0 1 = 0
            incident 0 2 = 0
            coded 0 0 = 1
            """);
        for (int skill = 0; skill < 16; skill++) {
            calls.run("missing 0 " + skill + " 0 = 0");
            calls.run("need 0 " + skill + " 0 1 20 = ok");
            calls.run("missing 0 " + skill + " 0 = 20");
            calls.run("send 0 " + skill + " 1 = 1");
        }
    }

    private static void unitWithoutSkills() {
        for (int skill = 0; skill < 16; skill++) {
            Calls calls = Calls.on("units without skills have none of them").run("kind -1 = 0");
            calls.run("need 0 " + skill + " 0 1 1 = ok\nuncovered 0 0 = 0\n");
            for (int unit = 0; unit < 20; unit++) {
                calls.run("unit " + unit + " 0 = ok");
            }
            calls.run("uncovered 0 0 = 0\nunit 19 65535 = ok\nuncovered 0 0 = -1\n");
            calls.run("unit 19 0 = ok\nuncovered 0 0 = 0\n");
        }
        Calls.on("a unit that loses its skills, beside one that keeps its own").run("""
            2 * kind -1
            need 0 0 0 1 1 = ok
            need 1 1 0 1 1 = ok
            unit 0 3 = ok
            unit 1 1 = ok
            uncovered 0 0 = -1
            unit 0 0 = ok
            uncovered 0 0 = 1
            uncovered 0 1 = -1
            """);
    }

    private static void nothingNeeded() {
        Calls.on("a need of 0 is none: more than 0 is needed to be not covered").run("""
            kind -1 = 0
            kind -1 = 1
            need 0 0 0 1 0 = ok
            need 0 1 0 2 0 = ok
            uncovered 0 0 = -1
            need 1 15 0 2 1 = ok
            uncovered 0 0 = 1
            uncovered 0 1 = -1
            """);
    }

    private static void rowsThatAreNotThere() {
        Calls.on("a row that is not there can be taken away").run("""
            kind -1 = 0
            area 0 0 -1 = ok
            area 0 9 -1 = ok
            upgrade 0 0 -1 = ok
            upgrade 0 31 -1 = ok
            count 2 = 0
            count 3 = 0
            in 0 0 = 0
            close 0 -1 = ok
            has 0 4 9999 = 0
            """);
    }
}
