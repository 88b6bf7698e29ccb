/** Promises 4 to 6 and 9: says, need, close, and what a kind has by them. */
public final class ChangesTest {
    public static void main(String[] args) {
        saysByDays();
        saysInherits();
        saysRefuses();
        needs();
        needRefuses();
        roomForChanges();
        close();
        closeRefuses();
        hasRefuses();
        Calls.end();
    }

    private static void saysByDays() {
        Calls.on("promise 4: the greatest day that is not after it counts").run("""
            kind -1 = 0
            says 0 0 100 5 = ok
            says 0 0 50 3 = ok      # told later, but of an earlier day
            says 0 0 200 0 = ok
            has 0 0 0 = 9
            has 0 0 49 = 9
            has 0 0 50 = 3
            has 0 0 99 = 3
            has 0 0 100 = 5
            has 0 0 199 = 5
            has 0 0 200 = 0
            has 0 0 9999 = 0
            """);
        Calls.on("promise 4: of the same day the one told last counts").run("""
            kind -1 = 0
            says 0 1 7 10 = ok
            says 0 1 7 99 = ok
            says 0 1 3 5 = ok
            has 0 1 7 = 99
            says 0 1 7 -1 = ok
            has 0 1 7 = 0
            has 0 1 6 = 5
            says 0 1 7 1 = ok
            has 0 1 8 = 1
            count 1 = 5
            """);
        Calls.on("promise 4: the words are told apart").run("""
            kind -1 = 0
            kind -1 = 1
            says 0 0 0 1 = ok
            says 0 1 0 2 = ok
            says 0 2 0 3 = ok
            says 0 3 0 4 = ok
            has 0 0 0 = 1
            has 0 1 0 = 2
            has 0 2 0 = 3
            has 0 3 0 = 4
            has 1 0 0 = 9
            has 1 1 0 = 0
            has 1 2 0 = 0
            has 1 3 0 = 0
            """);
    }

    private static void saysInherits() {
        Calls.on("promises 4 and 9: by itself, or else from above").run("""
            kind -1 = 0
            kind 0 = 1
            kind 1 = 2
            says 0 3 0 50 = ok
            has 2 3 0 = 50
            says 2 3 10 60 = ok
            says 1 3 5 70 = ok
            has 2 3 4 = 50
            has 2 3 5 = 70
            has 2 3 10 = 60
            says 2 3 20 -1 = ok
            has 2 3 20 = 70
            says 1 3 30 -1 = ok
            has 2 3 30 = 50
            says 0 3 40 -1 = ok
            has 2 3 40 = 0
            says 0 0 0 0 = ok       # 0 is said, it is not none
            has 2 0 0 = 0
            says 0 0 5 -1 = ok
            has 2 0 5 = 9
            """);
    }

    private static void saysRefuses() {
        Calls.on("promise 4: unknown and range").run("""
            kind -1 = 0
            says 1 0 0 0 = unknown
            says -1 0 0 0 = unknown
            says 0 4 0 0 = unknown
            says 0 -1 0 0 = unknown
            says 0 MAX -1 -9 = unknown  # unknown goes before range
            says 1 0 10000 0 = unknown
            says 0 0 -1 0 = range
            says 0 0 10000 0 = range
            says 0 0 0 -2 = range
            says 0 0 0 10 = range
            says 0 1 0 100 = range
            says 0 2 0 5 = range
            says 0 3 0 100 = range
            says 0 0 MIN MAX = range
            count 1 = 0
            has 0 0 9999 = 9
            says 0 0 0 9 = ok
            says 0 1 9999 99 = ok
            says 0 2 0 4 = ok
            says 0 3 9999 99 = ok
            count 1 = 4
            has 0 1 9998 = 0
            has 0 1 9999 = 99
            has 0 2 0 = 4
            has 0 3 9999 = 99
            """);
    }

    private static void needs() {
        Calls.on("promises 5 and 9: instead, at least, none").run("""
            kind -1 = 0
            kind 0 = 1
            kind 1 = 2
            has 2 12 0 = 0
            need 0 2 0 1 5 = ok
            has 2 12 0 = 5
            need 1 2 10 2 3 = ok
            has 2 12 10 = 5        # at least 3, 5 are inherited
            need 1 2 20 2 8 = ok
            has 2 12 20 = 8
            has 1 12 20 = 8
            has 0 12 20 = 5
            need 2 2 30 1 0 = ok
            has 2 12 30 = 0        # instead goes down too
            need 2 2 40 2 0 = ok
            has 2 12 40 = 8
            need 2 2 50 2 20 = ok
            has 2 12 50 = 20
            need 2 2 60 0 15 = ok  # none: its count says nothing
            has 2 12 60 = 8
            need 1 2 60 1 1 = ok
            has 2 12 60 = 1
            need 2 2 60 2 2 = ok
            has 2 12 60 = 2
            has 2 12 29 = 8
            """);
        Calls.on("promise 5: at least without anything above").run("""
            kind -1 = 0
            need 0 0 5 2 4 = ok
            has 0 10 4 = 0
            has 0 10 5 = 4
            has 0 11 5 = 0
            has 0 0 5 = 9
            """);
        Calls.on("promise 5: the greatest day, then the one told last").run("""
            kind -1 = 0
            need 0 15 20 1 2 = ok
            need 0 15 10 1 1 = ok
            need 0 15 20 1 3 = ok
            has 0 25 9 = 0
            has 0 25 10 = 1
            has 0 25 19 = 1
            has 0 25 20 = 3
            has 0 24 20 = 0
            """);
    }

    private static void needRefuses() {
        Calls.on("promise 5: unknown and range").run("""
            kind -1 = 0
            need 1 0 0 1 1 = unknown
            need -1 0 0 1 1 = unknown
            need 0 16 0 1 1 = unknown
            need 0 -1 0 1 1 = unknown
            need 0 16 -1 9 99 = unknown
            need 0 0 -1 1 1 = range
            need 0 0 10000 1 1 = range
            need 0 0 0 -1 1 = range
            need 0 0 0 3 1 = range
            need 0 0 0 1 -1 = range
            need 0 0 0 1 21 = range
            need 0 0 0 0 21 = range    # also where none is told
            need 0 0 MAX MIN MAX = range
            count 1 = 0
            has 0 10 9999 = 0
            need 0 0 9999 1 20 = ok
            need 0 15 0 1 0 = ok
            has 0 10 9999 = 20
            has 0 10 9998 = 0
            count 1 = 2
            """);
    }

    private static void roomForChanges() {
        Calls.on("promises 4 and 5: 200 changes, words and needs together").run("""
            kind -1 = 0
            100 * says 0 0 5 3
            99 * need 0 0 5 1 3
            count 1 = 199
            says 0 0 6 10 = range
            need 0 0 6 1 7 = ok
            count 1 = 200
            says 0 0 5 4 = room
            need 0 0 5 1 4 = room
            says 0 0 5 10 = range      # range goes before no room
            need 0 0 5 1 21 = range
            says 0 4 5 1 = unknown
            need 0 16 5 1 1 = unknown
            has 0 0 5 = 3
            has 0 10 5 = 3
            has 0 10 6 = 7
            count 1 = 200
            close 0 3 = ok             # needs no room among the changes
            has 0 4 3 = 1
            """);
        Calls.on("promise 4: the 200th change can be a word").run("""
            kind -1 = 0
            199 * need 0 1 5 1 3
            says 0 3 9 42 = ok
            has 0 3 9 = 42
            says 0 3 9 43 = room
            has 0 3 9 = 42
            """);
    }

    private static void close() {
        Calls.on("promise 6: closed from a day on, below it too").run("""
            kind -1 = 0
            kind 0 = 1
            kind 1 = 2
            close 1 20 = ok
            has 0 4 9999 = 0
            has 1 4 19 = 0
            has 1 4 20 = 1
            has 2 4 19 = 0
            has 2 4 20 = 1
            close 2 10 = ok
            has 2 4 9 = 0
            has 2 4 10 = 1
            has 1 4 10 = 0
            close 1 30 = ok        # another day takes the first one's place
            has 1 4 29 = 0
            has 1 4 30 = 1
            close 1 -1 = ok
            has 1 4 9999 = 0
            has 2 4 9999 = 1
            close 2 -1 = ok
            has 2 4 9999 = 0
            close 2 -1 = ok        # that it is so is no fault
            close 0 0 = ok
            has 2 4 0 = 1
            close 0 9999 = ok
            has 2 4 9998 = 0
            has 2 4 9999 = 1
            count 1 = 0
            """);
    }

    private static void closeRefuses() {
        Calls.on("promise 6: unknown and range").run("""
            kind -1 = 0
            close 0 5 = ok
            close 1 0 = unknown
            close -1 0 = unknown
            close 1 -2 = unknown
            close 0 -2 = range
            close 0 10000 = range
            close 0 MIN = range
            close 0 MAX = range
            has 0 4 4 = 0
            has 0 4 5 = 1
            """);
    }

    private static void hasRefuses() {
        Calls.on("promise 9: unknown and range").run("""
            kind -1 = 0
            has 1 0 0 = unknown
            has -1 0 0 = unknown
            has 0 -1 0 = unknown
            has 0 6 0 = unknown
            has 0 9 0 = unknown
            has 0 10 0 = 0
            has 0 25 0 = 0
            has 0 26 0 = unknown
            has 0 MAX 0 = unknown
            has 0 MIN 0 = unknown
            has 0 6 -1 = unknown
            has 1 0 10000 = unknown
            has 0 0 -1 = range
            has 0 3 10000 = range
            has 0 4 -1 = range
            has 0 5 10000 = range   # the day of a depth is looked at too
            has 0 10 -1 = range
            has 0 25 MAX = range
            """);
    }
}
