import java.util.Arrays;

/**
 * 'Of several by one kind for the same thing the one with the greatest day that is not after it, of the same day the
 * one told last.' For each thing that can change: every way to tell four changes on three days, and what each day has.
 */
public final class LatestTest {
    private static final int[] DAYS = {2, 5, 8};
    private static final int[] ASKED = {0, 1, 2, 3, 4, 5, 6, 7, 8, 9, 9_999};
    private static final int CHANGES = 4;
    private static final int NEEDS = 10;

    public static void main(String[] args) {
        for (int what : new int[] {0, 1, 2, 3, NEEDS, NEEDS + 15}) {
            everyWayToTell(what);
        }
        sameDayToldLast();
        dayThatIsNotAfterIt();
        toldLaterOfAnEarlierDay();
        noneTakesItsPlaceToo();
        hows();
        byOneKind();
        forTheSameThing();
        closedIsNoChange();
        Calls.end();
    }

    /** Four changes, each on one of three days, and each saying a number or none. */
    private static void everyWayToTell(int what) {
        for (int way = 0; way < 3 * 3 * 3 * 3 * 16; way++) {
            int[] days = new int[CHANGES];
            int[] values = new int[CHANGES];
            int rest = way;
            for (int i = 0; i < CHANGES; i++) {
                days[i] = DAYS[rest % 3];
                rest /= 3;
            }
            for (int i = 0; i < CHANGES; i++) {
                values[i] = (rest >> i & 1) == 1 ? -1 : i;
            }
            tellAndAsk(what, days, values);
        }
    }

    private static void tellAndAsk(int what, int[] days, int[] values) {
        int inherited = 4;
        String title = "what " + what + " said on days " + Arrays.toString(days) + ": " + Arrays.toString(values);
        Calls calls = Calls.on(title).run("kind -1 = 0\nkind 0 = 1\n" + change(0, what, 0, inherited));
        for (int i = 0; i < CHANGES; i++) {
            calls.run(change(1, what, days[i], values[i]));
        }
        for (int day : ASKED) {
            int counts = countsOn(day, days);
            int due = counts == -1 || values[counts] == -1 ? inherited : values[counts];
            calls.run("has 1 " + what + " " + day + " = " + due);
        }
    }

    private static String change(int kind, int what, int day, int value) {
        if (what < NEEDS) {
            return "says " + kind + " " + what + " " + day + " " + value + " = ok\n";
        }
        String count = value == -1 ? " 0 20" : " 1 " + value;
        return "need " + kind + " " + (what - NEEDS) + " " + day + count + " = ok\n";
    }

    private static int countsOn(int day, int[] days) {
        int greatest = -1;
        for (int told : days) {
            if (told <= day) {
                greatest = Math.max(greatest, told);
            }
        }
        int last = -1;
        for (int i = 0; i < days.length; i++) {
            if (days[i] == greatest) {
                last = i;
            }
        }
        return last;
    }

    private static void sameDayToldLast() {
        Calls.on("of the same day the one told last").run("""
            kind -1 = 0
            says 0 0 5 1 = ok
            has 0 0 5 = 1
            says 0 0 5 2 = ok
            has 0 0 5 = 2
            says 0 0 5 1 = ok
            has 0 0 5 = 1
            need 0 0 5 1 1 = ok
            need 0 0 5 1 2 = ok
            has 0 10 5 = 2
            need 0 0 5 1 1 = ok
            has 0 10 5 = 1
            count 1 = 6
            """);
        Calls.on("of the same day the one told last, others between them").run("""
            kind -1 = 0
            says 0 0 5 1 = ok
            says 0 0 9 3 = ok
            says 0 0 5 2 = ok
            says 0 0 1 4 = ok
            has 0 0 1 = 4
            has 0 0 5 = 2
            has 0 0 8 = 2
            has 0 0 9 = 3
            """);
    }

    private static void dayThatIsNotAfterIt() {
        Calls.on("the greatest day that is not after it: the day before, the day, the day after").run("""
            kind -1 = 0
            says 0 1 100 1 = ok
            says 0 1 101 2 = ok
            says 0 1 103 3 = ok
            has 0 1 99 = 0
            has 0 1 100 = 1
            has 0 1 101 = 2
            has 0 1 102 = 2
            has 0 1 103 = 3
            has 0 1 104 = 3
            """);
        Calls.on("the greatest day: the last ones that there are").run("""
            kind -1 = 0
            says 0 1 9999 1 = ok
            says 0 1 9998 2 = ok
            says 0 1 0 3 = ok
            has 0 1 0 = 3
            has 0 1 9997 = 3
            has 0 1 9998 = 2
            has 0 1 9999 = 1
            """);
    }

    private static void toldLaterOfAnEarlierDay() {
        Calls.on("one told later, of an earlier day, does not take the place of a later day's").run("""
            kind -1 = 0
            need 0 7 50 1 5 = ok
            need 0 7 49 1 4 = ok
            need 0 7 0 1 1 = ok
            has 0 17 0 = 1
            has 0 17 48 = 1
            has 0 17 49 = 4
            has 0 17 50 = 5
            has 0 17 9999 = 5
            """);
    }

    private static void noneTakesItsPlaceToo() {
        Calls.on("one that says none is a change as the others are").run("""
            kind -1 = 0
            says 0 3 5 1 = ok
            says 0 3 5 -1 = ok
            has 0 3 5 = 0
            says 0 3 5 2 = ok
            has 0 3 5 = 2
            says 0 3 6 -1 = ok
            says 0 3 4 9 = ok
            has 0 3 4 = 9
            has 0 3 5 = 2
            has 0 3 6 = 0
            has 0 3 9999 = 0
            """);
    }

    private static void hows() {
        Calls.on("of the same day the how told last, with its count").run("""
            kind -1 = 0
            kind 0 = 1
            need 0 0 0 1 10 = ok
            need 1 0 5 2 15 = ok
            need 1 0 5 1 3 = ok
            has 1 10 5 = 3
            need 1 0 5 2 4 = ok
            has 1 10 5 = 10        # neither 15 nor 3 counts any more
            need 1 0 5 0 20 = ok
            has 1 10 5 = 10
            need 1 0 5 2 11 = ok
            has 1 10 5 = 11
            has 1 10 4 = 10
            need 0 0 5 2 12 = ok
            has 1 10 5 = 12
            need 1 0 5 1 0 = ok
            has 1 10 5 = 0
            """);
    }

    private static void byOneKind() {
        Calls.on("by one kind: its own of an early day goes before its parent's of a later one").run("""
            kind -1 = 0
            kind 0 = 1
            kind -1 = 2
            says 1 0 3 1 = ok
            says 0 0 8 2 = ok
            says 2 0 9 3 = ok
            need 1 0 3 1 1 = ok
            need 0 0 8 1 2 = ok
            need 2 0 9 1 3 = ok
            has 1 0 2 = 9
            has 1 0 3 = 1
            has 1 0 9 = 1
            has 0 0 7 = 9
            has 0 0 9 = 2
            has 1 10 9 = 1
            has 0 10 9 = 2
            has 2 10 9 = 3
            has 2 0 9 = 3
            """);
    }

    private static void forTheSameThing() {
        Calls calls = Calls.on("for the same thing: the four words and the sixteen needs are told apart").run("kind -1 = 0");
        for (int what = 0; what < 4; what++) {
            calls.run("says 0 " + what + " " + (4 - what) + " " + what + " = ok");
        }
        for (int skill = 0; skill < 16; skill++) {
            calls.run("need 0 " + skill + " " + (20 - skill) + " 1 " + (skill + 1) + " = ok");
        }
        for (int what = 0; what < 4; what++) {
            calls.run("has 0 " + what + " " + (3 - what) + " = " + (what == 0 ? 9 : 0));
            calls.run("has 0 " + what + " " + (4 - what) + " = " + what + "\nhas 0 " + what + " 9999 = " + what);
        }
        for (int skill = 0; skill < 16; skill++) {
            String has = "has 0 " + (NEEDS + skill) + " ";
            calls.run(has + (19 - skill) + " = 0\n" + has + (20 - skill) + " = " + (skill + 1));
            calls.run(has + "9999 = " + (skill + 1));
        }
    }

    private static void closedIsNoChange() {
        Calls.on("closed from a day on: the one day told last, be it earlier or later").run("""
            kind -1 = 0
            kind 0 = 1
            close 0 50 = ok
            has 1 4 49 = 0
            has 1 4 50 = 1
            close 0 60 = ok
            has 1 4 59 = 0
            has 1 4 60 = 1
            close 0 40 = ok
            has 1 4 39 = 0
            has 1 4 40 = 1
            close 1 30 = ok
            has 1 4 30 = 1
            has 0 4 30 = 0
            close 1 70 = ok
            has 1 4 39 = 0
            has 1 4 40 = 1         # by the one above it
            close 0 -1 = ok
            has 1 4 69 = 0
            has 1 4 70 = 1
            close 1 -1 = ok
            has 1 4 9999 = 0
            """);
    }
}
