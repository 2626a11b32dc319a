/** Promises 1 to 5: a new object, addLeaf, prune, graft, setLength. */
public final class GrowthTest {
    private static final int ONE = Due.bits(1.0f);

    public static void main(String[] args) {
        newObject();
        addLeaf();
        lengthsInRange();
        ninetyNodes();
        prune();
        graft();
        graftKeepsLengthAndOrder();
        setLength();
        Due.end();
    }

    private static void newObject() {
        AncestorLooks looks = new AncestorLooks();
        int[] counts = {1, 1, 1, 1, 1, 0, 0, 1, 0, 0};
        for (int what = 0; what < counts.length; what++) {
            Due.is("new: count(" + what + ")", looks.count(what), counts[what]);
        }
        int[] ofRoot = {AncestorLooks.NONE, 0, 0, 0, 1, AncestorLooks.NONE, 0, 0, 1, 1};
        for (int what = 0; what < ofRoot.length; what++) {
            Due.is("new: node(0, " + what + ")", looks.node(0, what), ofRoot[what]);
        }
        Due.is("new: undo()", looks.undo(), AncestorLooks.NONE);
        Due.is("new: restore()", looks.restore(), AncestorLooks.NONE);
        AncestorLooks another = new AncestorLooks();
        another.addLeaf(0, ONE);
        another.type('(');
        Due.is("new: another object's leaf", looks.count(0), 1);
        Due.is("new: another object's text", looks.count(9), 0);
    }

    private static void addLeaf() {
        AncestorLooks looks = new AncestorLooks();
        Due.is("addLeaf(0)", looks.addLeaf(0, ONE), 1);
        Due.is("addLeaf(1)", looks.addLeaf(1, Due.bits(2.5f)), 2);
        Due.is("addLeaf(0) again", looks.addLeaf(0, Due.bits(0.25f)), 3);
        Due.is("its parent", looks.node(2, 0), 1);
        Due.is("its parent", looks.node(3, 0), 0);
        Due.real("its length", looks.real(2, 0), 2.5f);
        Due.is("an act each", looks.count(8), 3);
        Due.is("addLeaf(-1)", looks.addLeaf(-1, ONE), AncestorLooks.UNKNOWN);
        Due.is("addLeaf(4)", looks.addLeaf(4, ONE), AncestorLooks.UNKNOWN);
        Due.is("addLeaf(MAX)", looks.addLeaf(Integer.MAX_VALUE, ONE), AncestorLooks.UNKNOWN);
        Due.is("addLeaf(MIN)", looks.addLeaf(Integer.MIN_VALUE, ONE), AncestorLooks.UNKNOWN);
        Due.is("UNKNOWN before BAD_VALUE", looks.addLeaf(9, -1), AncestorLooks.UNKNOWN);
        Due.is("an error is no act", looks.count(8), 3);
        looks.prune(3);
        Due.is("below one that is gone", looks.addLeaf(3, ONE), AncestorLooks.UNKNOWN);
        Due.is("a number is not given again", looks.addLeaf(0, ONE), 4);
    }

    private static void lengthsInRange() {
        float[] good = {0.0f, 1000.0f, Float.MIN_VALUE, Float.MIN_NORMAL, 0.1f, 999.99994f,
            Math.nextDown(Float.MIN_NORMAL), Math.nextUp(Float.MIN_NORMAL), 3.0e-42f, 1.0e-30f, 512.5f};
        AncestorLooks looks = new AncestorLooks();
        for (int at = 0; at < good.length; at++) {
            Due.is("length " + good[at], looks.addLeaf(0, Due.bits(good[at])), at + 1);
            Due.real("length " + good[at], looks.real(at + 1, 0), good[at]);
        }
        float[] bad = {-0.0f, -1.0f, Math.nextUp(1000.0f), 1001.0f, Float.NaN, Float.POSITIVE_INFINITY,
            Float.NEGATIVE_INFINITY, Float.MAX_VALUE, -Float.MIN_VALUE};
        for (float length : bad) {
            Due.is("length " + length, looks.addLeaf(0, Due.bits(length)), AncestorLooks.BAD_VALUE);
        }
        Due.is("another NaN", looks.addLeaf(0, 0x7F800001), AncestorLooks.BAD_VALUE);
        Due.is("a NaN with a sign", looks.addLeaf(0, -1), AncestorLooks.BAD_VALUE);
        Due.is("the greatest bits", looks.addLeaf(0, Integer.MAX_VALUE), AncestorLooks.BAD_VALUE);
    }

    private static void ninetyNodes() {
        AncestorLooks looks = Due.chain(89);
        Due.is("the 91st node", looks.addLeaf(0, ONE), AncestorLooks.FULL);
        Due.is("BAD_VALUE before FULL", looks.addLeaf(0, -1), AncestorLooks.BAD_VALUE);
        Due.is("UNKNOWN before FULL", looks.addLeaf(90, ONE), AncestorLooks.UNKNOWN);
        looks.prune(89);
        Due.is("nodes that are gone count", looks.addLeaf(0, ONE), AncestorLooks.FULL);
        Due.is("there are", looks.count(0), 89);
        Due.is("there have been", looks.count(1), 90);
        looks.undo();
        looks.undo();
        Due.is("undo gives room again", looks.addLeaf(0, ONE), 89);
    }

    private static void prune() {
        AncestorLooks looks = Due.grown("(()())()");
        Due.is("prune(0) of a root with children", looks.prune(0), AncestorLooks.NOT_POSSIBLE);
        Due.is("prune(1), which has children", looks.prune(1), AncestorLooks.NOT_POSSIBLE);
        Due.is("no act", looks.count(8), 1);
        Due.is("prune(2)", looks.prune(2), 1);
        Due.is("prune(2), which is gone", looks.prune(2), AncestorLooks.UNKNOWN);
        Due.is("prune(3)", looks.prune(3), 0);
        Due.is("prune(1), a leaf now", looks.prune(1), 1);
        Due.is("prune(4)", looks.prune(4), 0);
        Due.is("acts", looks.count(8), 4);
        Due.is("prune(0) of a root alone", looks.prune(0), AncestorLooks.NOT_POSSIBLE);
        Due.is("prune(5)", looks.prune(5), AncestorLooks.UNKNOWN);
        Due.is("prune(-1)", looks.prune(-1), AncestorLooks.UNKNOWN);
        Due.is("prune(90)", looks.prune(90), AncestorLooks.UNKNOWN);
        Due.is("there are", looks.count(0), 1);
        Due.is("there have been", looks.count(1), 5);
    }

    private static void graft() {
        AncestorLooks looks = Due.grown("(()())()");
        Due.is("graft(1, 4)", looks.graft(1, 4), 0);
        Due.is("the new parent", looks.node(1, 0), 4);
        Due.is("the depth of what is below", looks.node(2, 1), 3);
        Due.is("act", looks.count(8), 2);
        Due.is("to where it is", looks.graft(1, 4), AncestorLooks.NONE);
        Due.is("into its branch", looks.graft(4, 3), AncestorLooks.NOT_POSSIBLE);
        Due.is("below its child", looks.graft(1, 2), AncestorLooks.NOT_POSSIBLE);
        Due.is("below itself", looks.graft(2, 2), AncestorLooks.NOT_POSSIBLE);
        Due.is("the root", looks.graft(0, 1), AncestorLooks.NOT_POSSIBLE);
        Due.is("the root below itself", looks.graft(0, 0), AncestorLooks.NOT_POSSIBLE);
        Due.is("no node", looks.graft(5, 0), AncestorLooks.UNKNOWN);
        Due.is("no parent", looks.graft(1, 5), AncestorLooks.UNKNOWN);
        Due.is("no node", looks.graft(-1, 0), AncestorLooks.UNKNOWN);
        Due.is("no parent", looks.graft(1, -1), AncestorLooks.UNKNOWN);
        Due.is("UNKNOWN before NOT_POSSIBLE", looks.graft(0, 77), AncestorLooks.UNKNOWN);
        Due.is("no acts", looks.count(8), 2);
        Due.is("up again", looks.graft(1, 0), 4);
        Due.is("beside its brother", looks.graft(2, 3), 1);
        Due.is("of the height", looks.node(1, 2), 2);
        looks.prune(4);
        Due.is("to one that is gone", looks.graft(3, 4), AncestorLooks.UNKNOWN);
    }

    private static void graftKeepsLengthAndOrder() {
        AncestorLooks looks = new AncestorLooks();
        for (int node = 1; node <= 4; node++) {
            looks.addLeaf(0, Due.bits(node * 0.5f));
        }
        looks.addLeaf(1, ONE);
        Due.is("graft(2, 4)", looks.graft(2, 4), 0);
        Due.real("the length that it had", looks.real(2, 0), 1.0f);
        Due.real("below a higher number", looks.real(2, 1), 3.0f);
        Due.is("the first of equal children", looks.node(0, 5), 1);
        looks.graft(5, 2);
        looks.graft(1, 2);
        Due.is("children are ordered by number", looks.node(2, 5), 1);
    }

    private static void setLength() {
        AncestorLooks looks = Due.grown("(())");
        Due.is("setLength(1, 2.0f)", looks.setLength(1, Due.bits(2.0f)), ONE);
        Due.is("setLength(1, 0.0f)", looks.setLength(1, 0), Due.bits(2.0f));
        Due.is("setLength(1, 1000.0f)", looks.setLength(1, Due.bits(1000.0f)), 0);
        Due.real("the path below", looks.real(2, 1), 1001.0f);
        Due.is("acts", looks.count(8), 4);
        Due.undoTimes(looks, 1);
        Due.real("the path below, undone", looks.real(2, 1), 1.0f);
        Due.is("so already", looks.setLength(1, 0), AncestorLooks.NONE);
        Due.is("-0.0f", looks.setLength(1, Due.bits(-0.0f)), AncestorLooks.BAD_VALUE);
        Due.is("more than 1000.0f", looks.setLength(1, Due.bits(1000.0f) + 1), AncestorLooks.BAD_VALUE);
        Due.is("a NaN", looks.setLength(1, Due.bits(Float.NaN)), AncestorLooks.BAD_VALUE);
        Due.is("the root", looks.setLength(0, ONE), AncestorLooks.NOT_POSSIBLE);
        Due.is("the root as it is", looks.setLength(0, 0), AncestorLooks.NOT_POSSIBLE);
        Due.is("BAD_VALUE before NOT_POSSIBLE", looks.setLength(0, -1), AncestorLooks.BAD_VALUE);
        Due.is("UNKNOWN before BAD_VALUE", looks.setLength(3, -1), AncestorLooks.UNKNOWN);
        Due.is("no node", looks.setLength(-1, ONE), AncestorLooks.UNKNOWN);
        Due.is("no acts", looks.count(8), 3);
    }
}
