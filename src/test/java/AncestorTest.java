/** Promises 12 to 16: ancestor, looks, jump, ladderAt, node. */
public final class AncestorTest {
    public static void main(String[] args) {
        ancestor();
        looksOnAChain();
        looksBesideALongWay();
        jump();
        ladderAt();
        node();
        nodesOfGrafts();
        Due.end();
    }

    /** The root with one long way 1..16 below it, and another one of the leaf 17 alone, below 12. */
    private static AncestorLooks sidewards() {
        AncestorLooks looks = Due.chain(16);
        Due.is("a leaf beside", looks.addLeaf(12, 0), 17);
        return looks;
    }

    private static void ancestor() {
        AncestorLooks looks = sidewards();
        Due.is("by 0", looks.ancestor(17, 0), 17);
        Due.is("by 1", looks.ancestor(17, 1), 12);
        Due.is("by 7", looks.ancestor(17, 7), 6);
        Due.is("by 13", looks.ancestor(17, 13), 0);
        Due.is("by 14", looks.ancestor(17, 14), AncestorLooks.NONE);
        Due.is("by MAX", looks.ancestor(17, Integer.MAX_VALUE), AncestorLooks.NONE);
        Due.is("by -1", looks.ancestor(17, -1), AncestorLooks.BAD_VALUE);
        Due.is("by MIN", looks.ancestor(17, Integer.MIN_VALUE), AncestorLooks.BAD_VALUE);
        Due.is("the root by 0", looks.ancestor(0, 0), 0);
        Due.is("the root by 1", looks.ancestor(0, 1), AncestorLooks.NONE);
        Due.is("no node", looks.ancestor(18, -1), AncestorLooks.UNKNOWN);
        Due.is("no node", looks.ancestor(-1, 0), AncestorLooks.UNKNOWN);
        looks.prune(17);
        Due.is("gone", looks.ancestor(17, 0), AncestorLooks.UNKNOWN);
    }

    private static void looksOnAChain() {
        AncestorLooks looks = Due.chain(89);
        Due.is("by 0", looks.looks(89, 0), 0);
        Due.is("by 1", looks.looks(89, 1), 1);
        Due.is("by 89, on one ladder", looks.looks(89, 89), 1);
        Due.is("by 90", looks.looks(89, 90), AncestorLooks.NONE);
        Due.is("the root by 0", looks.looks(0, 0), 0);
        Due.is("the root by 1", looks.looks(0, 1), AncestorLooks.NONE);
    }

    private static void looksBesideALongWay() {
        AncestorLooks looks = sidewards();
        int[] due = {0, 1, 2, 3, 2, 3, 3, 3, 2, 3, 3, 3, 3, 3};
        for (int steps = 0; steps < due.length; steps++) {
            Due.is("looks(17, " + steps + ")", looks.looks(17, steps), due[steps]);
        }
        Due.is("by 14", looks.looks(17, 14), AncestorLooks.NONE);
        Due.is("by MAX", looks.looks(17, Integer.MAX_VALUE), AncestorLooks.NONE);
        Due.is("by -1", looks.looks(17, -1), AncestorLooks.BAD_VALUE);
        Due.is("no node", looks.looks(18, -1), AncestorLooks.UNKNOWN);
        // Two nodes below 12: their ladder has four, and the steps are counted from its leaf.
        looks.addLeaf(17, 0);
        int[] fromUpper = {0, 1, 1, 2, 3, 3, 3, 2};
        for (int steps = 0; steps < fromUpper.length; steps++) {
            Due.is("looks(17, " + steps + ") above a leaf", looks.looks(17, steps), fromUpper[steps]);
        }
    }

    private static void jump() {
        AncestorLooks looks = Due.chain(65);
        int[] due = {64, 63, 61, 57, 49, 33, 1};
        for (int power = 0; power < due.length; power++) {
            Due.is("jump(65, " + power + ")", looks.jump(65, power), due[power]);
        }
        Due.is("power 7", looks.jump(65, 7), AncestorLooks.BAD_VALUE);
        Due.is("power -1", looks.jump(65, -1), AncestorLooks.BAD_VALUE);
        Due.is("power 32", looks.jump(65, 32), AncestorLooks.BAD_VALUE);
        Due.is("no leaf", looks.jump(64, 0), AncestorLooks.NOT_POSSIBLE);
        Due.is("BAD_VALUE before NOT_POSSIBLE", looks.jump(64, 7), AncestorLooks.BAD_VALUE);
        Due.is("no leaf, and no such jump", looks.jump(3, 6), AncestorLooks.NOT_POSSIBLE);
        Due.is("UNKNOWN before BAD_VALUE", looks.jump(66, 7), AncestorLooks.UNKNOWN);
        Due.is("no node", looks.jump(-1, 0), AncestorLooks.UNKNOWN);
        looks.undo();
        looks.undo();
        Due.is("from a depth of 63", looks.jump(63, 6), AncestorLooks.NONE);
        Due.is("to 31", looks.jump(63, 5), 31);
        looks.addLeaf(62, 0);
        looks.graft(64, 63);
        Due.is("just to the root", looks.jump(64, 6), 0);
        Due.is("a root alone", new AncestorLooks().jump(0, 0), AncestorLooks.NONE);
    }

    private static void ladderAt() {
        AncestorLooks looks = sidewards();
        Due.is("the leaf", looks.ladderAt(17, 0), 17);
        Due.is("one more", looks.ladderAt(17, 1), 12);
        Due.is("two more", looks.ladderAt(17, 2), AncestorLooks.NONE);
        looks.addLeaf(17, 0);
        int[] due = {18, 17, 12, 11};
        for (int place = 0; place < due.length; place++) {
            Due.is("ladderAt(17, " + place + ")", looks.ladderAt(17, place), due[place]);
            Due.is("ladderAt(18, " + place + ")", looks.ladderAt(18, place), due[place]);
        }
        Due.is("ladderAt(18, 4)", looks.ladderAt(18, 4), AncestorLooks.NONE);
        Due.is("the root's ladder", looks.ladderAt(0, 0), 16);
        Due.is("the root's ladder", looks.ladderAt(5, 16), 0);
        Due.is("above the root", looks.ladderAt(5, 17), AncestorLooks.NONE);
        Due.is("place MAX", looks.ladderAt(5, Integer.MAX_VALUE), AncestorLooks.NONE);
        Due.is("place -1", looks.ladderAt(5, -1), AncestorLooks.BAD_VALUE);
        Due.is("no node", looks.ladderAt(19, -1), AncestorLooks.UNKNOWN);
        Due.is("no node", looks.ladderAt(-1, 0), AncestorLooks.UNKNOWN);
    }

    private static void node() {
        // 0 has 1 (with 2 and, below it, 3), 4 (with 5 and, below it, 6) and 7.
        AncestorLooks looks = Due.grown("((()))((()))()");
        int[][] due = {
            {AncestorLooks.NONE, 0, 3, 3, 8, 1, 0, 3, 4, 4},
            {0, 1, 2, 1, 3, 2, 0, 3, 4, 4},
            {1, 2, 1, 1, 2, 3, 0, 3, 4, 4},
            {2, 3, 0, 0, 1, AncestorLooks.NONE, 0, 3, 4, 4},
            {0, 1, 2, 1, 3, 5, 4, 6, 3, 4},
            {4, 2, 1, 1, 2, 6, 4, 6, 3, 4},
            {5, 3, 0, 0, 1, AncestorLooks.NONE, 4, 6, 3, 4},
            {0, 1, 0, 0, 1, AncestorLooks.NONE, 7, 7, 1, 2},
        };
        for (int node = 0; node < due.length; node++) {
            for (int what = 0; what < due[node].length; what++) {
                Due.is("node(" + node + ", " + what + ")", looks.node(node, what), due[node][what]);
            }
        }
        Due.is("what 10", looks.node(0, 10), AncestorLooks.BAD_VALUE);
        Due.is("what -1", looks.node(0, -1), AncestorLooks.BAD_VALUE);
        Due.is("what MIN", looks.node(0, Integer.MIN_VALUE), AncestorLooks.BAD_VALUE);
        Due.is("no node", looks.node(8, 10), AncestorLooks.UNKNOWN);
        Due.is("no node", looks.node(-1, 0), AncestorLooks.UNKNOWN);
        looks.prune(3);
        Due.is("the other one is higher now", looks.node(0, 5), 4);
        Due.is("its long way goes on", looks.node(6, 6), 0);
        Due.is("the first one begins one", looks.node(2, 6), 1);
        Due.is("gone", looks.node(3, 0), AncestorLooks.UNKNOWN);
    }

    private static void nodesOfGrafts() {
        AncestorLooks looks = Due.grown("()(())()");
        looks.graft(1, 4);
        Due.is("the first of two as high", looks.node(0, 5), 2);
        looks.graft(2, 1);
        int[] depths = {0, 2, 3, 4, 1};
        int[] heights = {4, 2, 1, 0, 3};
        for (int node = 0; node < depths.length; node++) {
            Due.is("the depth of " + node, looks.node(node, 1), depths[node]);
            Due.is("the height of " + node, looks.node(node, 2), heights[node]);
            Due.is("the nodes of " + node, looks.node(node, 4), heights[node] + 1);
        }
    }
}
