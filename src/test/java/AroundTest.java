import java.util.ArrayList;
import java.util.List;

/** What would come around: a parent that is below the kind itself, and rows by area that lead back. */
public final class AroundTest {
    private static final int KINDS = 40;

    public static void main(String[] args) {
        ownParent();
        parentBelow();
        parentBesideIsNotBelow();
        parentAfterMoves();
        ownArea();
        areaLeadsBack();
        areasAreApart();
        areaInPlaceOfAnother();
        areaAfterRowsAreGone();
        rowsBesideParents();
        upgradesMayComeAround();
        Calls.end();
    }

    /** Kinds one below the other, the first one without a parent. */
    private static String chain(int length) {
        StringBuilder lines = new StringBuilder();
        for (int kind = 0; kind < length; kind++) {
            lines.append("kind ").append(kind - 1).append(" = ").append(kind).append('\n');
        }
        return lines.toString();
    }

    /** Kinds without parents, each but the last one with a row in area 4 to the next one. */
    private static String trail(int length) {
        StringBuilder lines = new StringBuilder(length + " * kind -1\n");
        for (int kind = 0; kind + 1 < length; kind++) {
            lines.append("area ").append(kind).append(" 4 ").append(kind + 1).append(" = ok\n");
        }
        return lines.toString();
    }

    private static void ownParent() {
        for (int length : new int[] {1, 2, KINDS}) {
            List<String> refused = new ArrayList<>();
            for (int kind = 0; kind < length; kind++) {
                refused.add("parent " + kind + " " + kind + " = state");
            }
            Untouched.check("a kind above itself: its own parent", chain(length), refused);
        }
    }

    private static void parentBelow() {
        for (int length : new int[] {2, 3, 7, KINDS}) {
            List<String> refused = new ArrayList<>();
            for (int kind = 0; kind < length; kind++) {
                for (int below = kind + 1; below < length; below++) {
                    refused.add("parent " + kind + " " + below + " = state");
                }
            }
            Untouched.check("a kind above itself: by " + length + " kinds, one below the other", chain(length), refused);
        }
    }

    private static void parentBesideIsNotBelow() {
        Calls.on("a kind above itself: one beside it or above it is not below it").run(chain(4)).run("""
            kind 1 = 4             # beside 2
            kind 4 = 5
            parent 2 5 = ok
            has 2 5 0 = 4
            has 3 5 0 = 5
            parent 4 3 = state     # 3 is below 2, 5, 4 now
            parent 3 0 = ok        # further up
            has 3 5 0 = 1
            parent 4 3 = ok
            has 2 5 0 = 4
            parent 0 2 = state
            """);
    }

    private static void parentAfterMoves() {
        Calls.on("a kind above itself: a chain turned round").run(chain(3)).run("""
            parent 0 2 = state
            parent 2 -1 = ok
            parent 0 2 = ok        # 2, 0, 1 now
            has 1 5 0 = 2
            parent 2 1 = state
            parent 2 0 = state
            parent 2 2 = state
            parent 1 2 = ok
            parent 2 1 = state
            parent 0 1 = ok        # 2, 1, 0 now
            has 0 5 0 = 2
            has 1 5 0 = 1
            has 2 5 0 = 0
            """);
        Calls.on("a kind above itself: the longest chain, and its two halves").run(chain(KINDS)).run("""
            has 39 5 0 = 39
            parent 20 -1 = ok
            has 39 5 0 = 19
            parent 0 39 = ok       # the upper half below the lower one
            has 19 5 0 = 39
            parent 20 19 = state
            parent 20 0 = state
            parent 20 39 = state
            has 19 5 0 = 39
            """);
    }

    private static void ownArea() {
        List<String> refused = new ArrayList<>();
        for (int area = 0; area < 10; area++) {
            refused.add("area 0 " + area + " 0 = state");
            refused.add("area 1 " + area + " 1 = state");
        }
        Untouched.check("rows that lead back: to the kind itself", trail(2), refused);
    }

    private static void areaLeadsBack() {
        for (int length : new int[] {2, 3, 7, KINDS}) {
            List<String> refused = new ArrayList<>();
            for (int kind = 0; kind < length; kind++) {
                for (int earlier = 0; earlier <= kind; earlier++) {
                    refused.add("area " + kind + " 4 " + earlier + " = state");
                }
            }
            Untouched.check("rows that lead back: over " + length + " kinds", trail(length), refused);
        }
    }

    private static void areasAreApart() {
        Calls calls = Calls.on("rows that lead back: only those of one area come around").run(trail(3));
        for (int area = 0; area < 10; area++) {
            if (area != 4) {
                calls.run("area 2 " + area + " 0 = ok\nin 2 " + area + " = 0\nin 0 " + area + " = 0\n");
            }
        }
        calls.run("area 2 4 0 = state\nin 2 4 = 2\nin 0 4 = 2\ncount 2 = 11\n");
    }

    private static void areaInPlaceOfAnother() {
        Calls.on("rows that lead back: the row whose place is taken does not count, the others do").run(trail(4)).run("""
            area 0 4 2 = ok        # past 1
            in 0 4 = 3
            area 2 4 1 = state     # 1 leads to 2
            area 1 4 0 = ok        # 0 leads to 2 and 3, no more to 1
            in 1 4 = 3
            area 2 4 1 = state
            area 3 4 1 = state
            area 2 4 -1 = ok
            in 1 4 = 2
            area 3 4 1 = ok
            in 3 4 = 2
            area 2 4 3 = state
            count 2 = 3
            """);
    }

    private static void areaAfterRowsAreGone() {
        Calls.on("rows that lead back: not any more, when one on the way is gone").run(trail(3)).run("""
            area 2 4 0 = state
            area 1 4 -1 = ok
            area 2 4 0 = ok        # 2, 0, 1
            in 2 4 = 1
            area 1 4 2 = state
            area 1 4 0 = state
            area 1 4 1 = state
            in 1 4 = 1
            count 2 = 2
            open 2 4 0 = 0
            incident 0 0 = 1
            """);
    }

    private static void rowsBesideParents() {
        Calls.on("rows by area go up and down the tree: parents do not make them come around").run(chain(3)).run("""
            area 0 4 2 = ok
            in 0 4 = 2
            in 1 4 = 1
            area 2 5 0 = ok
            in 2 5 = 0
            area 1 4 0 = ok
            in 1 4 = 2
            area 2 4 1 = state
            parent 0 2 = state
            """);
    }

    private static void upgradesMayComeAround() {
        Calls.on("upgrades that lead back are not refused").run("""
            3 * kind -1
            upgrade 0 5 1 = ok
            upgrade 1 5 2 = ok
            upgrade 2 5 0 = ok
            upgrade 2 5 2 = state
            open 0 0 0 = 0
            found 0 5 0 = 1
            found 0 5 0 = 2
            found 0 5 0 = 0
            found 0 5 0 = 1
            incident 0 2 = 4
            """);
    }
}
