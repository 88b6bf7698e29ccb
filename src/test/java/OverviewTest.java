/** Promises 16 to 19: unit, uncovered, coded, count. */
public final class OverviewTest {
    public static void main(String[] args) {
        unit();
        uncovered();
        coded();
        count();
        Calls.end();
    }

    private static void unit() {
        Calls.on("promise 16: a unit's skills take the place of those it had").run("""
            kind -1 = 0
            need 0 15 0 1 1 = ok
            uncovered 0 0 = 0
            unit 19 32768 = ok
            uncovered 0 0 = -1
            unit 19 32767 = ok
            uncovered 0 0 = 0
            unit 0 65535 = ok
            uncovered 0 0 = -1
            unit 0 0 = ok
            uncovered 0 0 = 0
            """);
        Calls.on("promise 16: unknown, range").run("""
            kind -1 = 0
            need 0 0 0 1 1 = ok
            unit 0 1 = ok
            unit 20 1 = unknown
            unit -1 1 = unknown
            unit 20 65536 = unknown
            unit 0 65536 = range
            unit 0 -1 = range
            unit 0 MIN = range
            unit 0 MAX = range
            uncovered 0 0 = -1
            """);
    }

    private static void uncovered() {
        Calls.on("promise 17: the i-th kind that needs what no unit has").run("""
            kind -1 = 0
            kind 0 = 1
            kind -1 = 2
            kind -1 = 3
            need 0 4 10 1 2 = ok
            need 3 5 10 2 1 = ok
            need 2 4 0 1 0 = ok        # 0 is no need
            uncovered 9 0 = -1
            uncovered 10 0 = 0
            uncovered 10 1 = 1         # by what it inherits
            uncovered 10 2 = 3
            uncovered 10 3 = -1
            uncovered 10 MAX = -1
            unit 7 32 = ok
            uncovered 10 2 = -1
            need 1 4 20 1 0 = ok
            uncovered 20 1 = -1
            uncovered 20 0 = 0
            unit 8 16 = ok
            uncovered 20 0 = -1
            """);
        Calls.on("promise 17: skills of several units count, each for itself").run("""
            kind -1 = 0
            need 0 0 0 1 1 = ok
            need 0 1 0 1 20 = ok
            unit 0 1 = ok
            uncovered 0 0 = 0
            unit 1 2 = ok
            uncovered 0 0 = -1
            """);
        Calls.on("promise 17: a closed kind is not among them").run("""
            kind -1 = 0
            kind 0 = 1
            kind -1 = 2
            need 0 0 0 1 1 = ok
            need 2 0 0 1 1 = ok
            close 0 5 = ok
            uncovered 4 0 = 0
            uncovered 4 1 = 1
            uncovered 4 2 = 2
            uncovered 5 0 = 2
            uncovered 5 1 = -1
            """);
        Calls.on("promise 17: range").run("""
            uncovered -1 0 = range
            uncovered 10000 0 = range
            uncovered 0 -1 = range
            uncovered MIN MIN = range
            uncovered 9999 0 = -1
            """);
    }

    private static void coded() {
        Calls.on("promise 18: by the kinds that the incidents have").run("""
            kind -1 = 0
            kind 0 = 1
            kind -1 = 2
            says 0 3 10 99 = ok
            says 1 3 20 7 = ok
            open 0 0 0 = 0
            open 1 0 0 = 1
            open 1 0 0 = 2
            open 2 0 0 = 3
            coded 0 9 = 4
            coded 99 9 = 0
            coded 99 10 = 3
            coded 0 10 = 1
            coded 99 20 = 1
            coded 7 20 = 2
            coded 8 20 = 0
            upgrade 1 0 2 = ok
            found 1 0 0 = 2
            coded 7 20 = 1
            coded 0 20 = 2
            close 2 0 = ok
            coded 0 20 = 2             # closed kinds' incidents count too
            """);
        Calls.on("promise 18: range").run("""
            coded -1 0 = range
            coded 100 0 = range
            coded 0 -1 = range
            coded 0 10000 = range
            coded MAX MIN = range
            coded 99 9999 = 0
            """);
    }

    private static void count() {
        Calls.on("promise 19: how many there are of each").run("""
            kind -1 = 0
            kind -1 = 1
            kind -1 = 2
            kind -1 = 3
            kind -1 = 4
            says 0 0 0 1 = ok
            says 0 0 0 1 = ok
            need 0 0 0 0 0 = ok
            need 0 0 0 1 1 = ok
            area 0 0 1 = ok
            area 0 1 1 = ok
            area 1 0 2 = ok
            upgrade 0 0 1 = ok
            upgrade 0 1 1 = ok
            open 0 0 0 = 0
            count 0 = 5
            count 1 = 4
            count 2 = 3
            count 3 = 2
            count 4 = 1
            count 5 = unknown
            count -1 = unknown
            count MAX = unknown
            count MIN = unknown
            """);
    }
}
