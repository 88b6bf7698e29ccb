/**
 * The least and the greatest number of each range, and the first one outside it on either side, in every call that
 * takes such a number; and that the least and the greatest one do what they say.
 */
public final class RangesTest {
    private static final String TWO_KINDS = """
        kind -1 = 0
        kind -1 = 1
        upgrade 0 0 1 = ok
        upgrade 0 31 1 = ok
        open 0 0 0 = 0
        need 1 15 0 1 1 = ok
        unit 0 32768 = ok
        """;

    public static void main(String[] args) {
        days();
        daysCount();
        kinds();
        kindsCount();
        skills();
        skillsCount();
        words();
        wordsCount();
        needs();
        needsCount();
        areas();
        findings();
        incidents();
        units();
        sentAtOnce();
        whats();
        places();
        Calls.end();
    }

    private static void days() {
        String[] calls = {"says 0 0 ? 5", "need 0 0 ? 1 5", "close 0 ?", "has 0 0 ?", "has 0 3 ?", "has 0 4 ?", "has 0 5 ?",
            "has 0 10 ?", "has 0 25 ?", "open 0 0 ?", "found 0 0 ?", "missing 0 0 ?", "uncovered ? 0", "coded 0 ?"};
        for (String call : calls) {
            boolean noneIsTold = call.equals("close 0 ?");
            edges("days 0 .. 9,999", TWO_KINDS, call, noneIsTold ? "-1 0 1 9998 9999" : "0 1 9998 9999",
                "range", noneIsTold ? "-2 10000 MIN MAX" : "-1 10000 MIN MAX");
        }
    }

    private static void daysCount() {
        Calls.on("days 0 .. 9,999: the least one").run("""
            kind -1 = 0
            says 0 0 0 5 = ok
            need 0 0 0 1 5 = ok
            says 0 3 0 6 = ok
            open 0 0 0 = 0
            has 0 0 0 = 5
            has 0 10 0 = 5
            missing 0 0 0 = 5
            uncovered 0 0 = 0
            coded 6 0 = 1
            has 0 0 9999 = 5
            close 0 0 = ok
            has 0 4 0 = 1
            has 0 4 9999 = 1
            uncovered 0 0 = -1
            open 0 0 0 = state
            """);
        Calls.on("days 0 .. 9,999: the greatest one").run("""
            kind -1 = 0
            says 0 0 9999 5 = ok
            need 0 0 9999 1 5 = ok
            says 0 3 9999 6 = ok
            open 0 0 9999 = 0
            has 0 0 9998 = 9
            has 0 0 9999 = 5
            has 0 10 9998 = 0
            has 0 10 9999 = 5
            missing 0 0 9998 = 0
            missing 0 0 9999 = 5
            uncovered 9998 0 = -1
            uncovered 9999 0 = 0
            coded 6 9998 = 0
            coded 6 9999 = 1
            close 0 9999 = ok
            has 0 4 9998 = 0
            has 0 4 9999 = 1
            uncovered 9999 0 = -1
            open 0 0 9998 = 1
            open 0 0 9999 = state
            """);
    }

    private static void kinds() {
        String title = "kinds, at most 40: 0 .. 39";
        String forty = "40 * kind -1\n";
        String[] calls = {"says ? 0 0 5", "need ? 0 0 1 5", "close ? 5", "area ? 0 -1", "area ? 0 20", "upgrade ? 0 -1",
            "upgrade ? 0 20", "has ? 0 0", "has ? 5 0", "has ? 10 0", "in ? 0", "open ? 0 0", "parent ? 20"};
        for (String call : calls) {
            edges(title, forty, call, "0 1 38 39", "unknown", "-1 40 MIN MAX");
        }
        for (String call : new String[] {"area 20 0 ?", "upgrade 20 0 ?"}) {
            edges(title, forty, call, "-1 0 1 38 39", "unknown", "-2 40 MIN MAX");
        }
        edges(title, forty + "parent 20 21 = ok\n", "parent 20 ?", "-1 0 1 38 39", "unknown", "-2 40 MIN MAX");
        edges("kinds: the parent of the last one", "39 * kind -1\n", "kind ?", "-1 0 1 37 38", "unknown", "-2 39 MIN MAX");
        edges("kinds: the first one's parent", "", "kind ?", "-1", "unknown", "-2 0 1 MIN MAX");
    }

    private static void kindsCount() {
        Calls.on("kinds 0 .. 39: the first and the last one, in each place").run("""
            39 * kind -1
            kind 0 = 39
            has 39 5 0 = 1
            says 39 3 0 99 = ok
            has 39 3 0 = 99
            has 38 3 0 = 0
            need 39 15 0 1 20 = ok
            has 39 25 0 = 20
            uncovered 0 0 = 39
            upgrade 0 5 39 = ok
            upgrade 39 5 0 = ok
            open 0 0 0 = 0
            found 0 5 0 = 39
            coded 99 0 = 1
            missing 0 15 0 = 20
            found 0 5 0 = 0
            parent 39 -1 = ok
            parent 0 39 = ok
            has 0 3 0 = 99
            has 0 5 0 = 1
            area 0 9 39 = ok
            in 0 9 = 39
            area 39 9 0 = state
            area 0 9 -1 = ok
            area 39 9 0 = ok
            in 39 9 = 0
            close 39 0 = ok
            has 0 4 0 = 1
            """);
    }

    private static void skills() {
        String title = "skills 0 .. 15";
        for (String call : new String[] {"need 0 ? 0 1 5", "send 0 ? 1", "missing 0 ? 0"}) {
            edges(title, TWO_KINDS, call, "0 1 14 15", "unknown", "-1 16 MIN MAX");
        }
        edges(title, TWO_KINDS, "has 0 ? 0", "10 11 24 25", "unknown", "9 26 MIN MAX");
        edges(title + " as bits", TWO_KINDS, "unit 0 ?", "0 1 32768 65534 65535", "range", "-1 65536 131072 MIN MAX");
    }

    private static void skillsCount() {
        for (int skill = 0; skill < 16; skill++) {
            Calls calls = Calls.on("skills 0 .. 15: each is its own").run("kind -1 = 0\nopen 0 0 0 = 0\n");
            calls.run("need 0 " + skill + " 0 1 7 = ok\nsend 0 " + skill + " 3 = 3\n");
            for (int other = 0; other < 16; other++) {
                calls.run("has 0 " + (10 + other) + " 0 = " + (other == skill ? 7 : 0));
                calls.run("missing 0 " + other + " 0 = " + (other == skill ? 4 : 0));
                calls.run("unit 3 " + (1 << other) + " = ok");
                calls.run("uncovered 0 0 = " + (other == skill ? -1 : 0));
                calls.run("send 0 " + other + " 1 = " + (other == skill ? 4 : 1));
            }
            calls.run("unit 3 " + (0xFFFF & ~(1 << skill)) + " = ok\nuncovered 0 0 = 0\n");
            calls.run("unit 3 65535 = ok\nuncovered 0 0 = -1\n");
        }
    }

    private static void words() {
        edges("a priority 0 .. 9, or none", TWO_KINDS, "says 0 0 0 ?", "-1 0 1 8 9", "range", "-2 10 MIN MAX");
        edges("questions 0 .. 99, or none", TWO_KINDS, "says 0 1 0 ?", "-1 0 1 98 99", "range", "-2 100 MIN MAX");
        edges("a service 0 .. 4, or none", TWO_KINDS, "says 0 2 0 ?", "-1 0 1 3 4", "range", "-2 5 MIN MAX");
        edges("a statistics code 0 .. 99, or none", TWO_KINDS, "says 0 3 0 ?", "-1 0 1 98 99", "range", "-2 100 MIN MAX");
        edges("codes 0 .. 99", TWO_KINDS, "coded ? 0", "0 1 98 99", "range", "-1 100 MIN MAX");
    }

    private static void wordsCount() {
        int[] greatest = {9, 99, 4, 99};
        for (int what = 0; what < 4; what++) {
            int whenNobodySaysIt = what == 0 ? 9 : 0;
            String has = "has 1 " + what + " 0 = ";
            Calls calls = Calls.on("the least and the greatest of what " + what + ", and none");
            calls.run("kind -1 = 0\nkind 0 = 1\n" + has + whenNobodySaysIt);
            calls.run("says 0 " + what + " 0 3 = ok\n" + has + 3);
            calls.run("says 1 " + what + " 0 0 = ok\n" + has + 0);
            calls.run("says 1 " + what + " 0 " + greatest[what] + " = ok\n" + has + greatest[what]);
            calls.run("says 1 " + what + " 0 -1 = ok\n" + has + 3);
            calls.run("says 0 " + what + " 0 -1 = ok\n" + has + whenNobodySaysIt);
        }
        Calls.on("codes 0 .. 99: the least and the greatest one are counted").run("""
            kind -1 = 0
            kind -1 = 1
            says 0 3 0 99 = ok
            says 1 3 0 0 = ok
            open 0 0 0 = 0
            open 0 0 0 = 1
            open 1 0 0 = 2
            coded 99 0 = 2
            coded 98 0 = 0
            coded 0 0 = 1
            coded 1 0 = 0
            """);
    }

    private static void needs() {
        String title = "a need's count 0 .. 20";
        for (int how = 0; how < 3; how++) {
            edges(title + ", how " + how, TWO_KINDS, "need 0 0 0 " + how + " ?", "0 1 19 20", "range", "-1 21 MIN MAX");
        }
        edges("how 0 .. 2", TWO_KINDS, "need 0 0 0 ? 5", "0 1 2", "range", "-1 3 MIN MAX");
    }

    private static void needsCount() {
        Calls.on("a need's count: 0 and 20, instead and at least").run("""
            kind -1 = 0
            kind 0 = 1
            need 0 3 0 1 20 = ok
            has 1 13 0 = 20
            need 1 3 0 1 0 = ok
            has 1 13 0 = 0          # instead of 20
            need 1 3 0 2 0 = ok
            has 1 13 0 = 20         # the greater one
            need 0 3 0 1 0 = ok
            has 1 13 0 = 0
            need 1 3 0 2 20 = ok
            has 1 13 0 = 20
            need 1 3 0 0 20 = ok
            has 1 13 0 = 0          # none: what its parent has
            """);
        Calls.on("at least: one less than, just as many, one more than what the parent has").run("""
            kind -1 = 0
            kind 0 = 1
            need 0 3 0 2 10 = ok
            need 1 3 1 2 9 = ok
            need 1 3 2 2 10 = ok
            need 1 3 3 2 11 = ok
            has 1 13 0 = 10
            has 1 13 1 = 10
            has 1 13 2 = 10
            has 1 13 3 = 11
            """);
        Calls.on("what is missing: 0 at least").run("""
            kind -1 = 0
            need 0 3 0 1 20 = ok
            open 0 0 0 = 0
            missing 0 3 0 = 20
            send 0 3 19 = 19
            missing 0 3 0 = 1
            send 0 3 1 = 20
            missing 0 3 0 = 0
            send 0 3 1 = 21
            missing 0 3 0 = 0
            """);
    }

    private static void areas() {
        for (String call : new String[] {"area 0 ? 1", "area 0 ? -1", "in 0 ?", "open 0 ? 0"}) {
            edges("areas 0 .. 9", TWO_KINDS, call, "0 1 8 9", "range", "-1 10 MIN MAX");
        }
        for (int area = 0; area < 10; area++) {
            Calls calls = Calls.on("areas 0 .. 9: each is its own").run("2 * kind -1\narea 0 " + area + " 1 = ok");
            for (int other = 0; other < 10; other++) {
                int due = other == area ? 1 : 0;
                calls.run("in 0 " + other + " = " + due + "\nin 1 " + other + " = 1");
                calls.run("open 0 " + other + " 0 = " + other);
                calls.run("incident " + other + " 0 = " + due + "\nincident " + other + " 1 = " + other);
            }
        }
    }

    private static void findings() {
        String allRows = allFindings("upgrade 0 %d 1 = ok\n");
        edges("findings 0 .. 31", TWO_KINDS + allRows, "found 0 ? 0", "0 1 30 31", "range", "-1 32 MIN MAX");
        for (String call : new String[] {"upgrade 0 ? 1", "upgrade 0 ? -1"}) {
            edges("findings 0 .. 31", TWO_KINDS, call, "0 1 30 31", "range", "-1 32 MIN MAX");
        }
        for (int finding = 0; finding < 32; finding++) {
            Calls calls = Calls.on("findings 0 .. 31: each is its own").run("2 * kind -1\nopen 0 0 0 = 0\n");
            calls.run("upgrade 0 " + finding + " 1 = ok");
            for (int other = 0; other < 32; other++) {
                if (other != finding) {
                    calls.run("found 0 " + other + " 0 = state");
                }
            }
            calls.run("found 0 " + finding + " 0 = 1");
        }
    }

    private static String allFindings(String line) {
        StringBuilder lines = new StringBuilder();
        for (int finding = 0; finding < 32; finding++) {
            lines.append(line.formatted(finding));
        }
        return lines.toString();
    }

    private static void incidents() {
        String sixty = TWO_KINDS + "59 * open 0 9 0\n";
        for (String call : new String[] {"found ? 31 0", "send ? 0 1", "missing ? 0 0", "incident ? 0", "incident ? 2"}) {
            edges("incidents, at most 60: 0 .. 59", sixty, call, "0 1 58 59", "unknown", "-1 60 MIN MAX");
            edges("incidents: one alone", TWO_KINDS, call, "0", "unknown", "-1 1 59 MIN MAX");
        }
        Calls.on("incidents 0 .. 59: the first and the last one").run(sixty).run("""
            found 59 31 0 = 1
            incident 59 0 = 1
            incident 59 1 = 9
            incident 59 2 = 1
            incident 58 0 = 0
            incident 58 2 = 0
            incident 0 0 = 0
            incident 0 1 = 0
            incident 0 2 = 0
            need 0 15 0 1 20 = ok
            need 1 15 0 1 10 = ok
            send 59 15 4 = 4
            send 0 15 1 = 1
            missing 59 15 0 = 6
            missing 58 15 0 = 20
            missing 0 15 0 = 19
            says 1 3 0 99 = ok
            coded 99 0 = 1
            coded 0 0 = 59
            """);
    }

    private static void units() {
        edges("units 0 .. 19", TWO_KINDS, "unit ? 0", "0 1 18 19", "unknown", "-1 20 MIN MAX");
        for (int unit = 0; unit < 20; unit++) {
            Calls calls = Calls.on("units 0 .. 19: each keeps its own skills").run("kind -1 = 0\nneed 0 6 0 1 1 = ok\n");
            calls.run("unit " + unit + " 64 = ok\nuncovered 0 0 = -1\n");
            for (int other = 0; other < 20; other++) {
                if (other != unit) {
                    calls.run("unit " + other + " 0 = ok\nuncovered 0 0 = -1\n");
                }
            }
            calls.run("unit " + unit + " 0 = ok\nuncovered 0 0 = 0\n");
        }
    }

    private static void sentAtOnce() {
        edges("n is 1 .. 100", TWO_KINDS, "send 0 0 ?", "1 2 99 100", "range", "0 -1 101 MIN MAX");
        Calls.on("n is 1 .. 100: the least and the greatest one").run(TWO_KINDS).run("""
            send 0 0 100 = 100
            send 0 0 1 = 101
            """);
    }

    private static void whats() {
        edges("says: what 0 .. 3", TWO_KINDS, "says 0 ? 0 1", "0 1 2 3", "unknown", "-1 4 MIN MAX");
        edges("has: what 0 .. 5", TWO_KINDS, "has 0 ? 0", "0 1 2 3 4 5", "unknown", "-1 6 7 8 9 MIN MAX");
        edges("incident: what 0 .. 2", TWO_KINDS, "incident 0 ?", "0 1 2", "unknown", "-1 3 MIN MAX");
        edges("count: what 0 .. 4", TWO_KINDS, "count ?", "0 1 2 3 4", "unknown", "-1 5 MIN MAX");
    }

    private static void places() {
        edges("uncovered: i from 0 on", TWO_KINDS, "uncovered 0 ?", "0 1 39 40 MAX", "range", "-1 -2 MIN");
        Calls calls = Calls.on("uncovered: the first, the last, and one more").run("40 * kind -1");
        for (int kind = 0; kind < 40; kind++) {
            calls.run("need " + kind + " 0 0 1 1 = ok");
        }
        for (int i = 0; i < 40; i++) {
            calls.run("uncovered 0 " + i + " = " + i);
        }
        calls.run("uncovered 0 40 = -1\nuncovered 0 MAX = -1\n");
    }

    /** A call with '?' in the place of one number, each on a new object: fine ones are taken, the others refused. */
    private static void edges(String title, String setup, String call, String fine, String refusal, String refused) {
        for (String value : fine.split(" ")) {
            String told = call.replace("?", value);
            String got = Calls.on(title).run(setup).answer(told);
            if (Calls.isRefusal(got)) {
                Calls.fail(title + ": " + told + " answered " + got + ", due is no refusal");
            }
        }
        for (String value : refused.split(" ")) {
            Untouched.check(title, setup, call.replace("?", value) + " = " + refusal);
        }
    }
}
