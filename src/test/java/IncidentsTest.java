/** Promises 11 to 15: open, found, send, missing, incident. */
public final class IncidentsTest {
    public static void main(String[] args) {
        open();
        openRefuses();
        found();
        foundRefuses();
        send();
        missing();
        incident();
        Calls.end();
    }

    private static void open() {
        Calls.on("promise 11: the kind of its area, kept").run("""
            kind -1 = 0
            kind -1 = 1
            kind -1 = 2
            open 0 3 0 = 0
            area 0 3 1 = ok
            area 1 3 2 = ok
            open 0 3 0 = 1
            open 0 4 9999 = 2
            count 4 = 3
            incident 0 0 = 0       # it was opened before the row
            incident 1 0 = 2
            incident 1 1 = 3
            incident 2 0 = 0
            incident 2 1 = 4
            close 2 0 = ok
            incident 1 0 = 2       # also when the kind is closed later
            area 0 3 -1 = ok
            incident 1 0 = 2
            incident 1 2 = 0
            """);
        Calls.on("promise 11: closed is the kind that it would have").run("""
            kind -1 = 0
            kind 0 = 1
            kind -1 = 2
            close 0 10 = ok
            open 0 0 9 = 0
            open 0 0 10 = state
            open 1 0 10 = state    # closed above it
            area 1 7 2 = ok
            open 1 7 10 = 1        # its own being closed does not matter
            incident 1 0 = 2
            area 2 8 1 = ok
            open 2 8 10 = state
            open 2 8 9 = 2
            open 2 7 10 = 3
            count 4 = 4
            """);
    }

    private static void openRefuses() {
        Calls.on("promise 11: unknown, range, state").run("""
            kind -1 = 0
            close 0 5 = ok
            open 1 0 0 = unknown
            open -1 0 0 = unknown
            open 1 10 10000 = unknown
            open 0 10 0 = range
            open 0 -1 0 = range
            open 0 0 -1 = range
            open 0 0 10000 = range
            open 0 10 5 = range
            open 0 MIN MAX = range
            open 0 0 5 = state
            count 4 = 0
            open 0 9 4 = 0
            """);
        Calls.on("promise 11: 60 incidents").run("""
            kind -1 = 0
            59 * open 0 0 0
            open 0 9 0 = 59
            open 0 0 0 = room
            close 0 5 = ok
            open 0 0 5 = state     # state goes before no room
            open 0 0 4 = room
            open 0 10 4 = range
            open 1 0 4 = unknown
            count 4 = 60
            incident 59 1 = 9
            incident 60 0 = unknown
            send 59 15 1 = 1
            send 0 0 2 = 2
            send 59 15 1 = 2
            coded 0 0 = 60
            """);
    }

    private static void found() {
        Calls.on("promise 12: its own row, else one from above").run("""
            kind -1 = 0
            kind 0 = 1
            kind 1 = 2
            kind -1 = 3
            kind -1 = 4
            upgrade 0 7 3 = ok
            upgrade 1 8 3 = ok
            upgrade 0 8 4 = ok
            upgrade 4 7 2 = ok
            open 2 0 0 = 0
            found 0 7 0 = 3
            incident 0 0 = 3
            incident 0 2 = 1
            found 0 7 0 = state    # kind 3 has no row, and nobody above it
            found 0 8 0 = state
            incident 0 0 = 3
            incident 0 2 = 1
            open 2 0 0 = 1
            found 1 8 0 = 3        # the nearest row counts
            open 0 0 0 = 2
            found 2 8 0 = 4
            found 2 7 0 = 2
            found 2 8 0 = 3
            incident 2 2 = 3
            incident 2 0 = 3
            incident 1 2 = 1
            """);
        Calls.on("promise 12: the row's kind is not sent on by area").run("""
            kind -1 = 0
            kind -1 = 1
            kind -1 = 2
            area 1 5 2 = ok
            upgrade 0 0 1 = ok
            open 0 5 0 = 0
            found 0 0 0 = 1
            incident 0 0 = 1
            incident 0 1 = 5
            """);
        Calls.on("promises 12 and 15: a row from above to the kind it has makes it no other one").run("""
            kind -1 = 0
            kind 0 = 1
            upgrade 0 3 1 = ok
            open 1 0 0 = 0
            found 0 3 0 = 1
            incident 0 0 = 1
            incident 0 2 = 0
            open 0 0 0 = 1
            found 1 3 0 = 1
            incident 1 2 = 1
            found 1 3 0 = 1
            incident 1 2 = 1
            close 1 5 = ok
            found 1 3 5 = state
            """);
    }

    private static void foundRefuses() {
        Calls.on("promise 12: unknown, range, state").run("""
            kind -1 = 0
            kind -1 = 1
            kind 1 = 2
            upgrade 0 31 2 = ok
            open 0 0 0 = 0
            found 1 31 0 = unknown
            found -1 31 0 = unknown
            found 1 32 -1 = unknown
            found 0 32 0 = range
            found 0 -1 0 = range
            found 0 31 -1 = range
            found 0 31 10000 = range
            found 0 MAX MIN = range
            found 0 30 0 = state
            close 1 10 = ok
            found 0 31 10 = state  # closed above the kind that it would become
            incident 0 0 = 0
            incident 0 2 = 0
            close 0 0 = ok
            found 0 31 9 = 2       # that its own kind is closed does not matter
            incident 0 2 = 1
            """);
        Calls.on("promise 12: a closed row is not passed over for one above").run("""
            kind -1 = 0
            kind 0 = 1
            kind -1 = 2
            kind -1 = 3
            upgrade 0 1 2 = ok
            upgrade 1 1 3 = ok
            close 3 0 = ok
            open 1 0 0 = 0
            found 0 1 0 = state
            upgrade 1 1 -1 = ok
            found 0 1 0 = 2
            """);
    }

    private static void send() {
        Calls.on("promise 13: how many were sent, of each skill and incident").run("""
            kind -1 = 0
            open 0 0 0 = 0
            open 0 0 0 = 1
            send 0 0 1 = 1
            send 0 0 100 = 101
            send 0 15 7 = 7
            send 1 0 3 = 3
            send 1 15 4 = 4
            send 0 15 1 = 8
            """);
        Calls.on("promise 13: unknown, range, room").run("""
            kind -1 = 0
            open 0 0 0 = 0
            send 1 0 1 = unknown
            send -1 0 1 = unknown
            send 0 16 1 = unknown
            send 0 -1 1 = unknown
            send 0 16 0 = unknown
            send 0 0 0 = range
            send 0 0 -1 = range
            send 0 0 101 = range
            send 0 0 MAX = range
            send 0 0 MIN = range
            9 * send 0 0 100
            send 0 0 99 = 999
            send 0 0 2 = room
            send 0 0 101 = range   # range goes before no room
            send 0 0 1 = 1000
            send 0 0 1 = room
            send 0 1 1 = 1         # the limit is each skill's own
            """);
    }

    private static void missing() {
        Calls.on("promise 14: the need less what was sent, 0 at least").run("""
            kind -1 = 0
            kind 0 = 1
            need 0 6 10 1 5 = ok
            need 1 6 20 2 9 = ok
            open 1 0 0 = 0
            open 1 0 0 = 1
            missing 0 6 9 = 0
            missing 0 6 10 = 5
            missing 0 6 20 = 9
            send 0 6 4 = 4
            missing 0 6 9 = 0
            missing 0 6 10 = 1
            missing 0 6 20 = 5
            missing 0 7 20 = 0
            missing 1 6 20 = 9     # of the other one nothing was sent
            send 0 6 100 = 104
            missing 0 6 20 = 0
            """);
        Calls.on("promise 14: by the kind that it has, and what was sent is kept").run("""
            kind -1 = 0
            kind -1 = 1
            need 0 0 0 1 2 = ok
            need 1 0 0 1 8 = ok
            upgrade 0 0 1 = ok
            open 0 0 0 = 0
            send 0 0 1 = 1
            missing 0 0 0 = 1
            found 0 0 0 = 1
            missing 0 0 0 = 7
            close 1 0 = ok
            missing 0 0 0 = 7
            """);
        Calls.on("promise 14: unknown, range").run("""
            kind -1 = 0
            open 0 0 0 = 0
            missing 1 0 0 = unknown
            missing -1 0 0 = unknown
            missing 0 16 0 = unknown
            missing 0 -1 0 = unknown
            missing 0 16 -1 = unknown
            missing 0 0 -1 = range
            missing 0 15 10000 = range
            missing 0 15 9999 = 0
            """);
    }

    private static void incident() {
        Calls.on("promise 15: unknown").run("""
            kind -1 = 0
            incident 0 0 = unknown
            open 0 6 0 = 0
            incident 0 0 = 0
            incident 0 1 = 6
            incident 0 2 = 0
            incident 0 3 = unknown
            incident 0 -1 = unknown
            incident 1 0 = unknown
            incident -1 0 = unknown
            incident MAX MIN = unknown
            """);
    }
}
