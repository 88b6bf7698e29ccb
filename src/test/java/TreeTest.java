/** Promises 1 to 3: a new object, kind, parent. */
public final class TreeTest {
    public static void main(String[] args) {
        newObject();
        kind();
        kindRefuses();
        parent();
        parentRefuses();
        Calls.end();
    }

    private static void newObject() {
        Calls.on("promise 1: a new object").run("""
            count 0 = 0
            count 1 = 0
            count 2 = 0
            count 3 = 0
            count 4 = 0
            has 0 0 0 = unknown
            in 0 0 = unknown
            incident 0 0 = unknown
            uncovered 0 0 = -1
            coded 0 0 = 0
            """);
        Calls.on("promise 1: a new object knows no kind and no incident").run("""
            parent 0 -1 = unknown
            says 0 0 0 0 = unknown
            need 0 0 0 1 1 = unknown
            close 0 0 = unknown
            area 0 0 -1 = unknown
            upgrade 0 0 -1 = unknown
            open 0 0 0 = unknown
            found 0 0 0 = unknown
            send 0 0 1 = unknown
            missing 0 0 0 = unknown
            """);
    }

    private static void kind() {
        Calls.on("promise 2: kinds are numbered and stand below their parents").run("""
            kind -1 = 0
            kind 0 = 1
            kind 1 = 2
            kind -1 = 3
            count 0 = 4
            has 0 5 0 = 0
            has 1 5 0 = 1
            has 2 5 0 = 2
            has 3 5 0 = 0
            """);
        Calls.on("promise 2: a new kind says nothing by itself").run("""
            kind -1 = 0
            has 0 0 9999 = 9
            has 0 1 9999 = 0
            has 0 2 9999 = 0
            has 0 3 9999 = 0
            has 0 4 9999 = 0
            has 0 10 9999 = 0
            has 0 25 9999 = 0
            in 0 0 = 0
            in 0 9 = 0
            """);
    }

    private static void kindRefuses() {
        Calls.on("promise 2: unknown parents").run("""
            kind 0 = unknown       # not even itself
            kind -2 = unknown
            kind MIN = unknown
            kind MAX = unknown
            count 0 = 0
            kind -1 = 0
            kind 1 = unknown
            kind 0 = 1
            """);
        Calls.on("promise 2: 40 kinds").run("""
            39 * kind -1
            kind 38 = 39
            count 0 = 40
            kind -1 = room
            kind 39 = room
            kind 40 = unknown      # unknown goes before no room
            kind -2 = unknown
            count 0 = 40
            has 39 5 0 = 1
            """);
        Calls chain = Calls.on("promise 2: a chain of 40 kinds");
        for (int kind = 0; kind < 40; kind++) {
            chain.run("kind " + (kind - 1) + " = " + kind);
        }
        chain.run("""
            has 39 5 0 = 39
            says 0 0 0 4 = ok
            need 0 15 0 2 20 = ok
            upgrade 0 31 1 = ok
            has 39 0 0 = 4
            has 39 25 0 = 20
            open 39 0 0 = 0
            found 0 31 0 = 1
            close 0 3 = ok
            has 39 4 2 = 0
            has 39 4 3 = 1
            parent 0 39 = state
            parent 0 0 = state
            """);
    }

    private static void parent() {
        Calls.on("promise 3: another parent counts at once, for all that is inherited").run("""
            kind -1 = 0
            kind -1 = 1
            kind 0 = 2
            kind 2 = 3
            says 0 0 0 1 = ok
            says 1 0 0 2 = ok
            need 0 4 0 1 3 = ok
            need 1 4 0 1 7 = ok
            close 1 10 = ok
            upgrade 1 0 0 = ok
            open 3 0 0 = 0
            has 3 0 0 = 1
            has 3 14 0 = 3
            has 3 4 10 = 0
            found 0 0 0 = state
            parent 2 1 = ok
            has 3 0 0 = 2
            has 3 14 0 = 7
            has 3 4 10 = 1
            has 3 5 0 = 2
            missing 0 4 0 = 7
            found 0 0 0 = 0
            """);
        Calls.on("promise 3: no parent any more").run("""
            kind -1 = 0
            kind 0 = 1
            says 0 0 0 1 = ok
            parent 1 -1 = ok
            has 1 0 0 = 9
            has 1 5 0 = 0
            parent 0 1 = ok        # the other way round now
            has 0 5 0 = 1
            parent 1 0 = state
            """);
    }

    private static void parentRefuses() {
        Calls.on("promise 3: unknown kinds").run("""
            kind -1 = 0
            kind 0 = 1
            parent -1 0 = unknown
            parent 2 0 = unknown
            parent 0 2 = unknown
            parent 0 -2 = unknown
            parent 2 2 = unknown
            parent MIN MAX = unknown
            has 1 5 0 = 1
            has 0 5 0 = 0
            """);
        Calls.on("promise 3: above itself, or it is so").run("""
            kind -1 = 0
            kind 0 = 1
            kind 1 = 2
            kind 1 = 3
            parent 0 0 = state
            parent 0 1 = state
            parent 0 2 = state
            parent 1 2 = state
            parent 0 -1 = state    # it has none
            parent 1 0 = state     # it has this one
            has 0 5 0 = 0
            has 1 5 0 = 1
            has 2 5 0 = 2
            parent 2 3 = ok        # beside it, not below it
            has 2 5 0 = 3
            parent 3 2 = state
            parent 3 0 = ok
            has 2 5 0 = 2
            """);
    }
}
