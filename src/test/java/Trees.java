import java.util.function.IntUnaryOperator;

/** Trees that several tests begin with. */
final class Trees implements Answers {
    /** Of oneGone(), what is no node: too small, gone, undone, not given yet, too large. */
    private static final int[] NO_NODES = {-1, -2, -90, MIN, 2, 4, 5, 23, 24, 89, 90, 91, MAX};

    private Trees() {
    }

    /** The root, below it 1, and below that 3; the node 2 is gone, and 4 to 23, below each other, were undone. */
    static AncestorLooks oneGone() {
        AncestorLooks looks = Due.grown("()()");
        looks.addLeaf(1, ONE);
        looks.prune(2);
        Due.typeAll(looks, "(".repeat(20) + ")".repeat(20));
        Due.is("grow(0), to be undone", looks.grow(0), 20);
        looks.undo();
        looks.clearText();
        return looks;
    }

    /** For each number that is no node of oneGone(). */
    static void noNodes(String call, IntUnaryOperator asked) {
        for (int number : NO_NODES) {
            Due.is(call + " of " + number, asked.applyAsInt(number), UNKNOWN);
        }
    }

    /** For floats, of which a NaN tells it. */
    static void noNodesOfReal(String call, IntToFloat asked) {
        for (int number : NO_NODES) {
            Due.real(call + " of " + number, asked.apply(number), Float.NaN);
        }
    }

    interface IntToFloat {
        float apply(int number);
    }

    /** A tree grown from a text, whose nodes from 1 on have these lengths. */
    static AncestorLooks withLengths(String text, float... lengths) {
        AncestorLooks looks = Due.grown(text);
        for (int node = 1; node <= lengths.length; node++) {
            looks.setLength(node, Due.bits(lengths[node - 1]));
        }
        return looks;
    }

    /** There have been 90 nodes: the root, 1 to 87 below it, 88 below 87, and 89 below 88. */
    static AncestorLooks full() {
        AncestorLooks looks = new AncestorLooks();
        Due.typeAll(looks, "()".repeat(29));
        for (int time = 1; time <= 3; time++) {
            Due.is("grow(0) of 29 leaves", looks.grow(0), 29);
        }
        looks.addLeaf(87, ONE);
        Due.is("the 90th node", looks.addLeaf(88, ONE), 89);
        return looks;
    }

    /** The root with one long way 1 to 16 below it, and another one of the leaf 17 alone, below 12. */
    static AncestorLooks sidewards() {
        AncestorLooks looks = Due.chain(16);
        Due.is("a leaf beside", looks.addLeaf(12, ZERO), 17);
        return looks;
    }
}
