/** Promises 24 to 27: shape, alike, tableAt, count. */
public final class ShapesTest {
    public static void main(String[] args) {
        shape();
        largestShapes();
        alike();
        tableAt();
        count();
        countsOfLaddersAndJumps();
        Due.end();
    }

    private static void shape() {
        AncestorLooks looks = Due.grown("(()(()))()");
        Due.is("of a leaf", looks.shape(2), 0b10);
        Due.is("of one with a leaf", looks.shape(3), 0b1100);
        Due.is("of children in their order", looks.shape(1), 0b11011000);
        Due.is("of the whole tree", looks.shape(0), 0b111011000100);
        Due.is("no node", looks.shape(6), AncestorLooks.UNKNOWN);
        Due.is("no node", looks.shape(-1), AncestorLooks.UNKNOWN);
        Due.is("of a root alone", new AncestorLooks().shape(0), 2);
        looks.graft(5, 2);
        looks.graft(3, 0);
        Due.is("of one that was grafted", looks.shape(1), 0b111000);
        Due.is("in the order of the numbers", looks.shape(0), 0b111100011000);
        looks.prune(5);
        Due.is("after a prune", looks.shape(1), 0b1100);
        Due.is("gone", looks.shape(5), AncestorLooks.UNKNOWN);
    }

    private static void largestShapes() {
        AncestorLooks down = Due.chain(15);
        Due.is("16 nodes", down.shape(0), AncestorLooks.NONE);
        Due.is("15 nodes", down.shape(1), 0b111111111111111_000000000000000);
        Due.is("16 nodes are like none", down.alike(0), AncestorLooks.NONE);
        Due.is("15 nodes are like themselves", down.alike(1), 1);
        Due.is("shapes", down.count(7), 15);
        AncestorLooks wide = Due.grown("()".repeat(14));
        Due.is("15 nodes", wide.shape(0), 0b1_10101010101010_10101010101010_0);
        wide.addLeaf(0, 0);
        Due.is("16 nodes", wide.shape(0), AncestorLooks.NONE);
        Due.is("shapes", wide.count(7), 1);
    }

    private static void alike() {
        AncestorLooks looks = Due.grown("(()(()))((())())(())");
        Due.is("leaves", looks.alike(2), 5);
        Due.is("ones with a leaf", looks.alike(3), 3);
        Due.is("the order of children counts", looks.alike(1), 1);
        Due.is("the order of children counts", looks.alike(5), 1);
        Due.is("the root", looks.alike(0), 1);
        Due.is("no node", looks.alike(11), AncestorLooks.UNKNOWN);
        Due.is("no node", looks.alike(-1), AncestorLooks.UNKNOWN);
        looks.prune(4);
        Due.is("not the one that is gone", looks.alike(2), 5);
        looks.prune(2);
        Due.is("not the one that is gone", looks.alike(3), 4);
    }

    private static void tableAt() {
        AncestorLooks looks = Due.grown("(()(()))((())())(())");
        int[] due = {0b10, 0b1100, 0b11011000, 0b11100100, 0b1110110001110010011000};
        for (int place = 0; place < due.length; place++) {
            Due.is("tableAt(" + place + ")", looks.tableAt(place), due[place]);
        }
        Due.is("tableAt(5)", looks.tableAt(5), AncestorLooks.NONE);
        Due.is("tableAt(MAX)", looks.tableAt(Integer.MAX_VALUE), AncestorLooks.NONE);
        Due.is("tableAt(-1)", looks.tableAt(-1), AncestorLooks.BAD_VALUE);
        Due.is("shapes", looks.count(7), 5);
        AncestorLooks large = Due.chain(20);
        for (int place = 0; place < 15; place++) {
            Due.is("tableAt(" + place + ") of a chain", large.tableAt(place), (1 << (2 * place + 2)) - (1 << (place + 1)));
        }
        Due.is("no shape of more than 15 nodes", large.tableAt(15), AncestorLooks.NONE);
    }

    private static void count() {
        AncestorLooks looks = Due.grown("((()))((()))()");
        int[] due = {8, 8, 3, 3, 4 + 4 + 2, 2 + 2 + 1, 3, 4, 1, 0};
        for (int what = 0; what < due.length; what++) {
            Due.is("count(" + what + ")", looks.count(what), due[what]);
        }
        Due.is("count(10)", looks.count(10), AncestorLooks.BAD_VALUE);
        Due.is("count(-1)", looks.count(-1), AncestorLooks.BAD_VALUE);
        Due.is("count(MIN)", looks.count(Integer.MIN_VALUE), AncestorLooks.BAD_VALUE);
        looks.prune(3);
        looks.prune(2);
        looks.prune(7);
        looks.type('x');
        int[] pruned = {5, 8, 2, 2, 4 + 2, 2 + 1, 3, 4, 4, 1};
        for (int what = 0; what < pruned.length; what++) {
            Due.is("pruned: count(" + what + ")", looks.count(what), pruned[what]);
        }
    }

    private static void countsOfLaddersAndJumps() {
        AncestorLooks down = Due.chain(89);
        Due.is("one ladder", down.count(4), 90);
        Due.is("jumps of a leaf at 89", down.count(5), 7);
        AncestorLooks star = Due.grown("()".repeat(30));
        Due.is("ladders of a star", star.count(4), 60);
        Due.is("jumps of a star", star.count(5), 30);
        for (int depth = 1; depth <= 64; depth *= 2) {
            AncestorLooks looks = Due.chain(depth);
            Due.is("jumps at " + depth, looks.count(5), Integer.numberOfTrailingZeros(depth) + 1);
            looks.undo();
            Due.is("jumps above " + depth, looks.count(5), Integer.numberOfTrailingZeros(depth));
        }
    }
}
