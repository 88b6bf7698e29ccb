/** Promises 7, 8 and 10: area, upgrade, in. */
public final class RowsTest {
    public static void main(String[] args) {
        area();
        areaRefuses();
        longestTrail();
        in();
        upgrade();
        upgradeRefuses();
        roomForUpgrades();
        Calls.end();
    }

    private static void area() {
        Calls.on("promise 7: rows are followed until there is none").run("""
            kind -1 = 0
            kind 0 = 1
            kind -1 = 2
            kind -1 = 3
            area 0 4 2 = ok
            in 0 4 = 2
            in 1 4 = 1             # rows are not inherited
            in 0 5 = 0             # nor known in another area
            area 2 4 3 = ok
            in 0 4 = 3
            in 2 4 = 3
            in 3 4 = 3
            count 2 = 2
            area 0 4 1 = ok        # in place of the row that was there
            in 0 4 = 1
            count 2 = 2
            area 0 4 -1 = ok
            in 0 4 = 0
            count 2 = 1
            area 0 4 -1 = ok       # that there is none is no fault
            count 2 = 1
            area 2 4 3 = ok        # nor that it is so
            count 2 = 1
            """);
    }

    private static void areaRefuses() {
        Calls.on("promise 7: unknown, range").run("""
            kind -1 = 0
            kind -1 = 1
            area 2 0 0 = unknown
            area -1 0 0 = unknown
            area 0 0 2 = unknown
            area 0 0 -2 = unknown
            area 0 10 2 = unknown
            area 2 -1 -1 = unknown
            area 0 -1 1 = range
            area 0 10 1 = range
            area 0 MAX 0 = range    # range goes before state
            area 0 MIN -1 = range
            count 2 = 0
            area 0 0 1 = ok
            area 0 9 1 = ok
            count 2 = 2
            """);
        Calls.on("promise 7: rows that would come around again").run("""
            kind -1 = 0
            kind -1 = 1
            kind -1 = 2
            area 0 3 0 = state
            area 0 3 1 = ok
            area 1 3 0 = state
            area 1 3 2 = ok
            area 2 3 0 = state
            area 2 3 1 = state
            area 2 3 2 = state
            count 2 = 2
            in 0 3 = 2
            in 2 3 = 2
            area 2 4 0 = ok        # in another area it does not
            in 2 4 = 0
            area 1 3 -1 = ok
            area 2 3 0 = ok
            in 2 3 = 1
            area 0 3 2 = state     # the row it would replace stays
            in 0 3 = 1
            area 0 3 0 = state
            in 2 3 = 1
            count 2 = 3
            """);
    }

    private static void longestTrail() {
        Calls calls = Calls.on("promises 7 and 10: a trail through all 40 kinds").run("40 * kind -1");
        for (int kind = 0; kind < 39; kind++) {
            calls.run("area " + kind + " 0 " + (kind + 1) + " = ok");
        }
        calls.run("""
            count 2 = 39
            in 0 0 = 39
            area 39 0 0 = state
            area 39 0 38 = state
            area 39 1 0 = ok
            open 0 0 0 = 0
            incident 0 0 = 39
            """);
    }

    private static void in() {
        Calls.on("promise 10: unknown, range; closed kinds are followed too").run("""
            kind -1 = 0
            kind -1 = 1
            in 2 0 = unknown
            in -1 0 = unknown
            in 2 10 = unknown
            in 0 10 = range
            in 0 -1 = range
            in 0 MAX = range
            area 0 9 1 = ok
            close 1 0 = ok
            in 0 9 = 1
            in 0 0 = 0
            """);
    }

    private static void upgrade() {
        Calls.on("promise 8: rows, replaced and taken away").run("""
            kind -1 = 0
            kind -1 = 1
            kind -1 = 2
            open 0 0 0 = 0
            open 0 0 0 = 1
            upgrade 0 0 1 = ok
            upgrade 0 31 1 = ok
            count 3 = 2
            upgrade 0 0 2 = ok
            count 3 = 2
            found 0 0 0 = 2
            upgrade 0 31 -1 = ok
            count 3 = 1
            found 1 31 0 = state
            upgrade 0 31 -1 = ok   # that there is none is no fault
            count 3 = 1
            upgrade 1 0 0 = ok     # upgrades may come around
            upgrade 2 0 0 = ok
            count 3 = 3
            found 0 0 0 = 0
            found 0 0 0 = 2
            """);
    }

    private static void upgradeRefuses() {
        Calls.on("promise 8: unknown, range, state").run("""
            kind -1 = 0
            kind 0 = 1
            upgrade 2 0 0 = unknown
            upgrade -1 0 0 = unknown
            upgrade 0 0 2 = unknown
            upgrade 0 0 -2 = unknown
            upgrade 0 32 2 = unknown
            upgrade 0 32 1 = range
            upgrade 0 -1 1 = range
            upgrade 0 32 0 = range     # range goes before state
            upgrade 0 MIN -1 = range
            upgrade 0 0 0 = state
            upgrade 1 31 1 = state
            count 3 = 0
            upgrade 1 5 0 = ok
            upgrade 1 5 1 = state
            count 3 = 1
            open 1 0 0 = 0
            found 0 5 0 = 0
            """);
    }

    private static void roomForUpgrades() {
        Calls calls = Calls.on("promise 8: 100 rows").run("4 * kind -1");
        for (int row = 0; row < 100; row++) {
            calls.run("upgrade " + row / 32 + " " + row % 32 + " " + (row / 32 + 1) % 4 + " = ok");
        }
        calls.run("""
            count 3 = 100
            upgrade 3 4 0 = room
            upgrade 3 4 3 = state      # state goes before no room
            upgrade 3 32 0 = range
            upgrade 4 4 0 = unknown
            upgrade 3 4 -1 = ok        # none stays none
            count 3 = 100
            open 3 0 0 = 0
            found 0 4 0 = state
            upgrade 0 0 3 = ok         # a row in place of another one needs no room
            count 3 = 100
            open 0 0 0 = 1
            found 1 0 0 = 3
            upgrade 0 0 -1 = ok
            count 3 = 99
            upgrade 3 4 2 = ok
            count 3 = 100
            found 0 4 0 = 2
            upgrade 0 0 1 = room
            """);
    }
}
