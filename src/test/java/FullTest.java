/**
 * What is full: 40 kinds, 200 changes, 100 rows of upgrades, 60 incidents, 1,000 sent. Each at the last one that there
 * is room for and at the first one that there is none for, and what a refused call leaves as it was.
 */
public final class FullTest {
    public static void main(String[] args) {
        kinds();
        changes();
        changesThatSayTheSame();
        upgrades();
        upgradesGoOn();
        incidents();
        sent();
        sentGoesOn();
        rowsByArea();
        allAtOnce();
        Calls.end();
    }

    private static void kinds() {
        String almost = """
            38 * kind -1
            count 0 = 38
            kind -1 = 38
            """;
        Calls.on("39 kinds: there is room for one more").run(almost).run("""
            kind -1 = 39
            count 0 = 40
            """);
        Calls.on("39 kinds: the last one has a parent").run(almost).run("""
            kind 38 = 39
            has 39 5 0 = 1
            """);
        Untouched.check("40 kinds: there is no room", almost + "kind 38 = 39\n", """
            kind -1 = room
            kind 0 = room
            kind 39 = room
            kind 40 = unknown
            kind -2 = unknown""");
        Calls.on("40 kinds: everything else goes on").run(almost).run("""
            kind 38 = 39
            kind 38 = room
            parent 39 -1 = ok
            parent 39 0 = ok
            says 39 0 0 1 = ok
            need 39 0 0 1 1 = ok
            close 39 5 = ok
            area 39 0 0 = ok
            upgrade 0 0 39 = ok
            open 39 1 0 = 0
            kind -1 = room
            count 0 = 40
            """);
    }

    private static void changes() {
        String[] fill = {"says 0 0 0 3", "need 0 0 0 1 3"};
        for (String each : fill) {
            String almost = "2 * kind -1\n199 * " + each + "\ncount 1 = 199\n";
            for (String last : new String[] {"says 1 3 5 99", "says 1 3 5 -1", "need 1 15 5 2 20", "need 1 15 5 0 0"}) {
                String full = almost + last + " = ok\n";
                Calls.on("199 changes: there is room for " + last).run(full).run("count 1 = 200");
                Untouched.check("200 changes: there is no room after " + last, full, """
                    says 0 0 0 4 = room
                    says 0 0 0 3 = room
                    says 1 1 9999 0 = room
                    says 0 0 0 -1 = room
                    need 0 0 0 1 4 = room
                    need 0 0 0 0 0 = room
                    need 1 14 9999 2 20 = room
                    says 0 0 0 10 = range
                    need 0 0 0 1 21 = range
                    says 2 0 0 0 = unknown
                    need 0 16 0 1 1 = unknown""");
            }
        }
        Calls.on("200 changes: the last one counts").run("""
            2 * kind -1
            199 * says 0 0 0 3
            need 1 15 5 2 20 = ok
            has 1 25 4 = 0
            has 1 25 5 = 20
            need 1 15 5 2 19 = room
            has 1 25 5 = 20
            has 0 0 0 = 3
            """);
    }

    private static void changesThatSayTheSame() {
        Calls.on("200 changes: each one told is one, also of the same day, the same number, and none").run("""
            kind -1 = 0
            says 0 0 5 1 = ok
            says 0 0 5 1 = ok
            says 0 0 5 -1 = ok
            says 0 0 5 -1 = ok
            need 0 0 5 0 0 = ok
            need 0 0 5 0 0 = ok
            count 1 = 6
            close 0 5 = ok             # no change that is counted
            count 1 = 6
            194 * says 0 0 5 1
            says 0 0 5 1 = room
            close 0 6 = ok
            close 0 -1 = ok
            count 1 = 200
            """);
    }

    /** Rows of upgrades from the kinds 0 .. 3, each to the next one. */
    private static String upgradeRows(int rows) {
        StringBuilder lines = new StringBuilder("5 * kind -1\nopen 0 0 0 = 0\nopen 3 0 0 = 1\n");
        for (int row = 0; row < rows; row++) {
            lines.append("upgrade ").append(row / 32).append(' ').append(row % 32).append(' ')
                .append(row / 32 + 1).append(" = ok\n");
        }
        return lines + "count 3 = " + rows + "\n";
    }

    private static void upgrades() {
        Calls.on("99 rows: there is room for one more").run(upgradeRows(99)).run("""
            found 1 31 0 = state
            upgrade 3 31 0 = ok
            count 3 = 100
            found 1 31 0 = 0
            """);
        Untouched.check("100 rows: there is no room", upgradeRows(100), """
            upgrade 3 4 0 = room
            upgrade 3 31 0 = room
            upgrade 4 0 3 = room
            upgrade 4 4 4 = state
            upgrade 0 0 0 = state
            upgrade 4 32 0 = range
            upgrade 4 0 5 = unknown""");
    }

    private static void upgradesGoOn() {
        Calls.on("100 rows: one in the place of another, and one less").run(upgradeRows(100)).run("""
            upgrade 3 31 0 = room
            upgrade 0 0 4 = ok         # no row more: it takes the place of the one that is there
            upgrade 0 0 4 = ok
            count 3 = 100
            found 0 0 0 = 4
            upgrade 3 31 -1 = ok       # there was none, and there is none
            count 3 = 100
            upgrade 3 31 0 = room
            upgrade 2 31 -1 = ok
            count 3 = 99
            upgrade 2 31 -1 = ok
            count 3 = 99
            upgrade 3 31 0 = ok
            count 3 = 100
            found 1 31 0 = 0
            upgrade 2 31 3 = room
            """);
    }

    private static void incidents() {
        String almost = """
            kind -1 = 0
            kind -1 = 1
            upgrade 0 0 1 = ok
            58 * open 0 0 0
            open 0 0 0 = 58
            count 4 = 59
            """;
        Calls.on("59 incidents: there is room for one more").run(almost).run("""
            open 1 9 9999 = 59
            count 4 = 60
            incident 59 0 = 1
            incident 59 1 = 9
            """);
        Untouched.check("60 incidents: there is no room", almost + "close 1 5 = ok\nopen 1 9 0 = 59\n", """
            open 0 0 0 = room
            open 1 9 4 = room
            open 1 9 5 = state
            open 0 10 0 = range
            open 0 0 10000 = range
            open 2 0 0 = unknown""");
        Calls.on("60 incidents: those that there are go on").run(almost).run("""
            open 1 9 9999 = 59
            open 1 9 9999 = room
            found 0 0 0 = 1
            send 59 0 1 = 1
            missing 59 0 0 = 0
            coded 0 0 = 60
            incident 60 0 = unknown
            """);
    }

    private static void sent() {
        String almost = """
            kind -1 = 0
            need 0 0 0 1 20 = ok
            open 0 0 0 = 0
            open 0 0 0 = 1
            9 * send 0 0 100
            send 0 0 99 = 999
            """;
        Calls.on("999 sent: there is room for one").run(almost).run("send 0 0 1 = 1000");
        Untouched.check("999 sent: there is no room for two", almost, """
            send 0 0 2 = room
            send 0 0 100 = room
            send 0 0 0 = range
            send 0 0 101 = range""");
        Untouched.check("1,000 sent: there is no room", almost + "send 0 0 1 = 1000\n", """
            send 0 0 1 = room
            send 0 0 100 = room
            send 0 0 0 = range
            send 0 0 101 = range
            send 0 16 1 = unknown
            send 2 0 1 = unknown""");
        Calls.on("900 sent: there is room for 100").run("""
            kind -1 = 0
            open 0 0 0 = 0
            9 * send 0 0 100
            send 0 0 100 = 1000
            """);
        Calls.on("901 sent: there is no room for 100, but for 99").run("""
            kind -1 = 0
            open 0 0 0 = 0
            9 * send 0 0 100
            send 0 0 1 = 901
            send 0 0 100 = room
            send 0 0 99 = 1000
            """);
    }

    private static void sentGoesOn() {
        Calls calls = Calls.on("1,000 sent of each skill at each of two incidents").run("kind -1 = 0\n2 * open 0 0 0\n");
        for (int skill = 0; skill < 16; skill++) {
            for (int incident = 0; incident < 2; incident++) {
                String send = "send " + incident + " " + skill;
                calls.run("10 * " + send + " 100\n" + send + " 1 = room\n");
            }
        }
        calls.run("missing 0 0 0 = 0\nmissing 1 15 0 = 0\n");
    }

    private static void rowsByArea() {
        StringBuilder lines = new StringBuilder("40 * kind -1\n");
        for (int kind = 0; kind < 39; kind++) {
            for (int area = 0; area < 10; area++) {
                lines.append("area ").append(kind).append(' ').append(area).append(' ').append(kind + 1).append(" = ok\n");
            }
        }
        Calls.on("rows by area: room for as many as do not come around").run(lines.toString()).run("""
            count 2 = 390
            in 0 0 = 39
            in 0 9 = 39
            area 39 0 0 = state
            area 39 9 38 = state
            area 0 0 39 = ok
            count 2 = 390
            area 0 0 -1 = ok
            count 2 = 389
            in 0 0 = 0
            in 1 0 = 39
            """);
    }

    private static void allAtOnce() {
        String full = upgradeRows(100) + """
            35 * kind 4
            199 * says 4 0 0 3
            need 4 0 0 1 2 = ok
            58 * open 39 0 0
            """;
        Untouched.check("all is full at once", full, """
            kind 4 = room
            says 0 0 0 0 = room
            need 0 0 0 1 1 = room
            upgrade 4 0 0 = room
            open 39 0 0 = room""");
        Calls.on("all is full at once: how many there are").run(full).run("""
            count 0 = 40
            count 1 = 200
            count 3 = 100
            count 4 = 60
            has 39 0 0 = 3
            missing 59 0 0 = 2
            """);
    }
}
