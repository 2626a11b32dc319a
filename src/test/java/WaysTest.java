/** Promises 17 to 23: meeting, wayAt, real, distance, reach, farthest, apart. */
public final class WaysTest {
    public static void main(String[] args) {
        meeting();
        wayAt();
        real();
        distance();
        reach();
        farthest();
        apart();
        apartOfEqualOnes();
        largestTrees();
        Due.end();
    }

    private static AncestorLooks withLengths(String text, float... lengths) {
        AncestorLooks looks = Due.grown(text);
        for (int node = 1; node <= lengths.length; node++) {
            looks.setLength(node, Due.bits(lengths[node - 1]));
        }
        return looks;
    }

    private static void meeting() {
        AncestorLooks looks = Due.grown("(()(()))()");
        Due.is("of two brothers", looks.meeting(2, 3), 1);
        Due.is("of different depths", looks.meeting(4, 2), 1);
        Due.is("of different depths", looks.meeting(2, 4), 1);
        Due.is("at the root", looks.meeting(4, 5), 0);
        Due.is("of a node and its ancestor", looks.meeting(4, 1), 1);
        Due.is("of an ancestor and its node", looks.meeting(1, 4), 1);
        Due.is("of a node and itself", looks.meeting(3, 3), 3);
        Due.is("of the root and itself", looks.meeting(0, 0), 0);
        Due.is("no node", looks.meeting(6, 0), AncestorLooks.UNKNOWN);
        Due.is("no other", looks.meeting(0, 6), AncestorLooks.UNKNOWN);
        Due.is("no other", looks.meeting(0, -1), AncestorLooks.UNKNOWN);
        looks.prune(5);
        Due.is("gone", looks.meeting(5, 5), AncestorLooks.UNKNOWN);
        Due.is("gone", looks.meeting(5, 0), AncestorLooks.UNKNOWN);
        Due.is("the other is gone", looks.meeting(0, 5), AncestorLooks.UNKNOWN);
        Due.is("no way from one that is gone", looks.wayAt(5, 0, 0), AncestorLooks.UNKNOWN);
        Due.is("no way to one that is gone", looks.wayAt(0, 5, 0), AncestorLooks.UNKNOWN);
        Due.real("no distance of one that is gone", looks.distance(5, 0), Float.NaN);
        Due.real("no distance to one that is gone", looks.distance(0, 5), Float.NaN);
        Due.is("no reach of one that is gone", looks.reach(5, 0), AncestorLooks.UNKNOWN);
        Due.is("none is far from one that is gone", looks.farthest(5), AncestorLooks.UNKNOWN);
    }

    private static void wayAt() {
        AncestorLooks looks = Due.grown("(()(()))()");
        int[] due = {4, 3, 1, 0, 5};
        for (int place = 0; place < due.length; place++) {
            Due.is("from 4 to 5 at " + place, looks.wayAt(4, 5, place), due[place]);
            Due.is("from 5 to 4 at " + place, looks.wayAt(5, 4, place), due[due.length - 1 - place]);
        }
        Due.is("from 4 to 5 at 5", looks.wayAt(4, 5, 5), AncestorLooks.NONE);
        Due.is("from 4 to 5 at MAX", looks.wayAt(4, 5, Integer.MAX_VALUE), AncestorLooks.NONE);
        Due.is("from 4 to 5 at -1", looks.wayAt(4, 5, -1), AncestorLooks.BAD_VALUE);
        Due.is("down", looks.wayAt(1, 4, 1), 3);
        Due.is("down to the end", looks.wayAt(1, 4, 2), 4);
        Due.is("down and no further", looks.wayAt(1, 4, 3), AncestorLooks.NONE);
        Due.is("to itself", looks.wayAt(2, 2, 0), 2);
        Due.is("to itself at 1", looks.wayAt(2, 2, 1), AncestorLooks.NONE);
        Due.is("from no node", looks.wayAt(6, 2, -1), AncestorLooks.UNKNOWN);
        Due.is("to no node", looks.wayAt(2, 6, -1), AncestorLooks.UNKNOWN);
        Due.is("to no node", looks.wayAt(2, -1, 0), AncestorLooks.UNKNOWN);
    }

    private static void real() {
        AncestorLooks looks = withLengths("((()))", 0.1f, 0.2f, 1000.0f);
        Due.real("the root's length", looks.real(0, 0), 0.0f);
        Due.real("the root's path", looks.real(0, 1), 0.0f);
        Due.real("a length", looks.real(2, 0), 0.2f);
        Due.real("a path", looks.real(2, 1), 0.1f + 0.2f);
        Due.real("a path, added from the root", looks.real(3, 1), (0.1f + 0.2f) + 1000.0f);
        Due.real("what 2", looks.real(1, 2), Float.NaN);
        Due.real("what -1", looks.real(1, -1), Float.NaN);
        Due.real("no node", looks.real(4, 0), Float.NaN);
        Due.real("no node", looks.real(-1, 1), Float.NaN);
        looks.prune(3);
        Due.real("gone", looks.real(3, 0), Float.NaN);
        AncestorLooks rounded = withLengths("(((())))", 16777216.0f / 65536.0f, 1.0f / 65536.0f, 1.0f / 65536.0f, 1.0f / 65536.0f);
        Due.real("each sum is rounded by itself", rounded.real(4, 1), 256.0f);
    }

    private static void distance() {
        float big = 1000.0f;
        float small = 0.1f;
        AncestorLooks looks = withLengths("(()())()", big, small, small, small);
        float low = big + small;
        Due.real("by the meeting place", looks.distance(2, 3), (low - big) + (low - big));
        Due.real("by the root", looks.distance(2, 4), (low - 0.0f) + (small - 0.0f));
        Due.real("the other way", looks.distance(4, 2), (low - 0.0f) + (small - 0.0f));
        Due.real("up", looks.distance(2, 1), low - big);
        Due.real("to itself", looks.distance(2, 2), 0.0f);
        Due.real("no node", looks.distance(5, 0), Float.NaN);
        Due.real("no other", looks.distance(0, 5), Float.NaN);
        Due.real("no other", looks.distance(0, -1), Float.NaN);
        Due.holds("rounding is seen", (low - big) + (low - big) != small + small);
    }

    private static void reach() {
        AncestorLooks looks = withLengths("((()))", 2.0f, 0.0f, 0.5f);
        Due.is("0.0f", looks.reach(3, 0), 3);
        Due.is("less than its length", looks.reach(3, Due.bits(0.49f)), 3);
        Due.is("just its length", looks.reach(3, Due.bits(0.5f)), 1);
        Due.is("nearly to the root", looks.reach(3, Due.bits(Math.nextDown(2.5f))), 1);
        Due.is("to the root", looks.reach(3, Due.bits(2.5f)), 0);
        Due.is("beyond it", looks.reach(3, Due.bits(1000.0f)), 0);
        Due.is("a length of 0.0f", looks.reach(2, 0), 1);
        Due.is("the root", looks.reach(0, 0), 0);
        Due.is("-0.0f", looks.reach(3, Due.bits(-0.0f)), AncestorLooks.BAD_VALUE);
        Due.is("more than 1000.0f", looks.reach(3, Due.bits(1000.0f) + 1), AncestorLooks.BAD_VALUE);
        Due.is("a NaN", looks.reach(3, Due.bits(Float.NaN)), AncestorLooks.BAD_VALUE);
        Due.is("UNKNOWN before BAD_VALUE", looks.reach(4, -1), AncestorLooks.UNKNOWN);
        Due.is("no node", looks.reach(-1, 0), AncestorLooks.UNKNOWN);
        AncestorLooks tiny = withLengths("(())", 1000.0f, 0.00001f);
        Due.is("by the path lengths, which are rounded", tiny.reach(2, 0), 1);
    }

    private static void farthest() {
        AncestorLooks looks = withLengths("(()())()", 1.0f, 2.0f, 2.0f, 3.0f);
        Due.is("of several the lowest", looks.farthest(4), 2);
        Due.is("of several the lowest", looks.farthest(0), 2);
        Due.is("across the root", looks.farthest(2), 4);
        Due.is("from a node between", looks.farthest(1), 4);
        looks.setLength(4, 0);
        Due.is("a brother", looks.farthest(2), 3);
        Due.is("no node", looks.farthest(5), AncestorLooks.UNKNOWN);
        Due.is("no node", looks.farthest(-1), AncestorLooks.UNKNOWN);
        Due.is("a root alone", new AncestorLooks().farthest(0), 0);
        AncestorLooks flat = withLengths("()()", 0.0f, 0.0f);
        Due.is("all as near", flat.farthest(2), 0);
        AncestorLooks alone = new AncestorLooks();
        alone.addLeaf(0, Due.bits(1.0f));
        alone.addLeaf(0, Due.bits(5.0f));
        alone.prune(2);
        Due.is("not one that is gone", alone.farthest(0), 1);
    }

    private static void apart() {
        AncestorLooks looks = withLengths("(()())()", 1.0f, 2.0f, 2.5f, 0.5f);
        Due.is("the first one", looks.apart(0), 2);
        Due.is("the second one", looks.apart(1), 3);
        looks.setLength(4, Due.bits(9.0f));
        Due.is("the first one", looks.apart(0), 3);
        Due.is("the second one", looks.apart(1), 4);
        looks.prune(4);
        Due.is("without one that is gone", looks.apart(1), 3);
        Due.is("which 2", looks.apart(2), AncestorLooks.BAD_VALUE);
        Due.is("which -1", looks.apart(-1), AncestorLooks.BAD_VALUE);
    }

    private static void apartOfEqualOnes() {
        AncestorLooks alone = new AncestorLooks();
        Due.is("a root alone", alone.apart(0), 0);
        Due.is("a root alone", alone.apart(1), 0);
        AncestorLooks flat = withLengths("()(())", 0.0f, 0.0f, 0.0f);
        Due.is("all at one place", flat.apart(0), 0);
        Due.is("all at one place", flat.apart(1), 0);
        AncestorLooks star = Due.grown("()()()()");
        Due.is("the lowest a", star.apart(0), 1);
        Due.is("the lowest b", star.apart(1), 2);
        AncestorLooks down = withLengths("(())", 1.0f, 0.0f);
        Due.is("the root is one", down.apart(0), 0);
        Due.is("and the lower number the other", down.apart(1), 1);
    }

    private static void largestTrees() {
        AncestorLooks down = Due.chain(89);
        Due.is("meeting at the root", down.meeting(89, 0), 0);
        Due.is("the end of the longest way", down.wayAt(89, 0, 89), 0);
        Due.is("the end of the longest way down", down.wayAt(0, 89, 89), 89);
        Due.is("no further", down.wayAt(0, 89, 90), AncestorLooks.NONE);
        Due.is("the reach of the deepest node", down.reach(89, Due.bits(89.0f)), 0);
        Due.is("and less", down.reach(89, Due.bits(88.0f)), 1);
        Due.is("farthest", down.farthest(89), 0);
        Due.is("the first one apart", down.apart(0), 0);
        Due.is("the second one apart", down.apart(1), 89);
        AncestorLooks star = new AncestorLooks();
        for (int node = 1; node <= 89; node++) {
            star.addLeaf(0, Due.bits(node * 1.0f));
        }
        Due.is("children of the root", star.node(0, 3), 89);
        Due.is("the first one apart", star.apart(0), 88);
        Due.is("the second one apart", star.apart(1), 89);
        Due.is("farthest of the farthest", star.farthest(89), 88);
        Due.real("their distance", star.distance(88, 89), 177.0f);
    }
}
