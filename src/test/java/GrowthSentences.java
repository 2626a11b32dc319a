/** Promises 1 to 5, sentence by sentence. */
final class GrowthSentences implements Answers {
    private GrowthSentences() {
    }

    static void all() {
        newObject();
        addLeaf();
        addLeafErrors();
        prune();
        graft();
        graftErrors();
        setLength();
        setLengthErrors();
    }

    private static void newObject() {
        Sentence.in("Promise 1").says("Creates a tree of the root alone.", () -> {
            AncestorLooks looks = new AncestorLooks();
            Due.is("nodes that are there", looks.count(0), 1);
            Due.is("nodes that there have been", looks.count(1), 1);
            Due.is("the root's parent", looks.node(0, 0), NONE);
            Due.is("the root's children", looks.node(0, 3), 0);
            Due.is("another node", looks.node(1, 0), UNKNOWN);
            Due.is("the first leaf", looks.addLeaf(0, ONE), 1);
        });
    }

    private static void addLeaf() {
        Sentence.in("Promise 2").says("Adds a leaf.", () -> {
            AncestorLooks looks = Due.chain(1);
            looks.addLeaf(1, TWO);
            Due.is("its parent", looks.node(2, 0), 1);
            Due.is("its children", looks.node(2, 3), 0);
            Due.is("its parent's children", looks.node(1, 3), 1);
            Due.is("leaves", looks.count(2), 1);
        }).says("This is an act.", () -> {
            AncestorLooks looks = new AncestorLooks();
            looks.addLeaf(0, ONE);
            Due.is("states", looks.count(8), 1);
            Due.is("undo()", looks.undo(), 0);
            Due.is("the leaf", looks.node(1, 0), UNKNOWN);
            Due.is("nodes that there have been", looks.count(1), 1);
        }).says("`parent`: a node", () -> {
            AncestorLooks looks = Trees.oneGone();
            Due.is("the lowest", looks.addLeaf(0, ONE), 4);
            Due.is("below it", looks.node(4, 0), 0);
            Due.is("the highest", looks.addLeaf(4, ONE), 5);
            Due.is("below it", looks.node(5, 0), 4);
        }).says("the bits of its length, as told by Float.floatToRawIntBits", () -> {
            float[] lengths = {0.1f, 0.3f, 999.99994f, 1.0e-30f, Float.MIN_NORMAL, Math.nextUp(Float.MIN_NORMAL),
                Math.nextDown(Float.MIN_NORMAL), 3.0e-42f, Float.MIN_VALUE};
            for (float length : lengths) {
                AncestorLooks looks = new AncestorLooks();
                looks.addLeaf(0, Float.floatToRawIntBits(length));
                Due.real("the length", looks.real(1, 0), length);
                Due.is("the bits", looks.setLength(1, THOUSAND), Float.floatToRawIntBits(length));
            }
        }).says("its number", () -> {
            AncestorLooks looks = new AncestorLooks();
            Due.is("the first one", looks.addLeaf(0, ONE), 1);
            Due.is("the second one", looks.addLeaf(0, ONE), 2);
            looks.prune(2);
            Due.is("after one that is gone", looks.addLeaf(0, ONE), 3);
        });
    }

    private static void addLeafErrors() {
        Sentence.in("Promise 2").says("UNKNOWN", () -> {
            AncestorLooks looks = Trees.oneGone();
            Trees.noNodes("addLeaf", parent -> looks.addLeaf(parent, ONE));
            Trees.noNodes("addLeaf, and of no length,", parent -> looks.addLeaf(parent, -1));
            Due.is("and 90 nodes", Trees.full().addLeaf(90, ONE), UNKNOWN);
        }).says("BAD_VALUE (no number", () -> {
            int[] noNumbers = {Due.bits(Float.NaN), 0x7F800001, 0x7FFFFFFF, 0xFF800001, 0xFFC00000, -1};
            for (int bits : noNumbers) {
                Due.is("bits " + bits, new AncestorLooks().addLeaf(0, bits), BAD_VALUE);
                Due.is("bits " + bits + ", and 90 nodes", Trees.full().addLeaf(0, bits), BAD_VALUE);
            }
        }).says("or not from 0.0f to 1000.0f", () -> {
            float[] outside = {-Float.MIN_VALUE, -1.0f, -1000.0f, -Float.MAX_VALUE, Float.NEGATIVE_INFINITY,
                Math.nextUp(1000.0f), 1001.0f, Float.MAX_VALUE, Float.POSITIVE_INFINITY};
            for (float length : outside) {
                Due.is("length " + length, new AncestorLooks().addLeaf(0, Due.bits(length)), BAD_VALUE);
            }
            float[] inside = {0.0f, Float.MIN_VALUE, Math.nextDown(1000.0f), 1000.0f};
            for (float length : inside) {
                Due.is("length " + length, new AncestorLooks().addLeaf(0, Due.bits(length)), 1);
            }
            Due.is("and 90 nodes", Trees.full().addLeaf(0, THOUSAND + 1), BAD_VALUE);
        }).says("-0.0f is in no range)", () -> {
            Due.is("-0.0f", new AncestorLooks().addLeaf(0, Integer.MIN_VALUE), BAD_VALUE);
            Due.is("-0.0f, and 90 nodes", Trees.full().addLeaf(0, Integer.MIN_VALUE), BAD_VALUE);
            Due.is("0.0f", new AncestorLooks().addLeaf(0, 0), 1);
        }).says("FULL if there have been 90 nodes", () -> {
            AncestorLooks looks = Due.chain(88);
            Due.is("the 90th", looks.addLeaf(88, ONE), 89);
            Due.is("the 91st", looks.addLeaf(89, ONE), FULL);
            looks.prune(89);
            Due.is("of 90 one is gone", looks.addLeaf(0, ONE), FULL);
            looks.undo();
            looks.undo();
            Due.is("there have been 89 again", looks.addLeaf(0, ONE), 89);
        });
    }

    private static void prune() {
        Sentence.in("Promise 3").says("Removes a leaf.", () -> {
            AncestorLooks looks = Due.grown("(())");
            looks.prune(2);
            Due.is("nodes that are there", looks.count(0), 2);
            Due.is("nodes that there have been", looks.count(1), 3);
            Due.is("the one that was removed", looks.node(2, 0), UNKNOWN);
            Due.is("its parent's height", looks.node(1, 2), 0);
        }).says("This is an act.", () -> {
            AncestorLooks looks = Due.grown("(())");
            looks.prune(2);
            Due.is("states", looks.count(8), 2);
            Due.is("undo()", looks.undo(), 1);
            Due.is("the leaf's parent", looks.node(2, 0), 1);
        }).says("`leaf`: a node", () -> {
            AncestorLooks looks = Due.grown("()()()");
            Due.is("the highest", looks.prune(3), 2);
            Due.is("the lowest below the root", looks.prune(1), 1);
        }).says("how many children its parent has then", () -> {
            AncestorLooks looks = Due.grown("(()()())()");
            Due.is("two are left", looks.prune(3), 2);
            Due.is("one is left", looks.prune(4), 1);
            Due.is("none is left", looks.prune(2), 0);
            Due.is("of the root one is left", looks.prune(1), 1);
            Due.is("of the root none is left", looks.prune(5), 0);
        }).says("UNKNOWN", () -> {
            AncestorLooks looks = Trees.oneGone();
            Trees.noNodes("prune", looks::prune);
        }).says("NOT_POSSIBLE if it is the root", () -> {
            Due.is("the root alone, which is a leaf", new AncestorLooks().prune(0), NOT_POSSIBLE);
            Due.is("the root with a child", Due.chain(1).prune(0), NOT_POSSIBLE);
        }).says("or no leaf", () -> {
            AncestorLooks looks = Due.grown("((()))");
            Due.is("of height 1", looks.prune(2), NOT_POSSIBLE);
            Due.is("of height 2", looks.prune(1), NOT_POSSIBLE);
            looks.prune(3);
            Due.is("a leaf when its child is gone", looks.prune(2), 0);
        });
    }

    private static void graft() {
        Sentence.in("Promise 4").says("Grafts a branch elsewhere: its node gets another parent", () -> {
            AncestorLooks looks = Due.grown("(()())()");
            looks.graft(1, 4);
            Due.is("its parent", looks.node(1, 0), 4);
            Due.is("the depth of what is below it", looks.node(3, 1), 3);
            Due.is("the old parent's children", looks.node(0, 3), 1);
            Due.is("the new parent's children", looks.node(4, 3), 1);
            Due.is("nodes that are there", looks.count(0), 5);
        }).says("with the length that it had.", () -> {
            AncestorLooks looks = Trees.withLengths("()()", 0.5f, 2.0f);
            looks.graft(1, 2);
            Due.real("its length", looks.real(1, 0), 0.5f);
            Due.real("its path length", looks.real(1, 1), 2.5f);
        }).says("This is an act.", () -> {
            AncestorLooks looks = Due.grown("()()");
            looks.graft(2, 1);
            Due.is("states", looks.count(8), 2);
            Due.is("undo()", looks.undo(), 1);
            Due.is("its parent", looks.node(2, 0), 0);
        }).says("`node`: a node", () -> {
            AncestorLooks looks = Due.grown("()()()");
            Due.is("the highest", looks.graft(3, 2), 0);
            Due.is("the lowest below the root", looks.graft(1, 3), 0);
        }).says("`parent`: a node", () -> {
            AncestorLooks looks = Due.grown("()()(())");
            Due.is("below the highest", looks.graft(1, 4), 0);
            Due.is("below the root", looks.graft(1, 0), 4);
        }).says("the parent that it had", () -> {
            AncestorLooks looks = Due.grown("(())()");
            Due.is("the root", looks.graft(3, 2), 0);
            Due.is("another one", looks.graft(3, 1), 2);
            Due.is("and the next", looks.graft(3, 0), 1);
        });
    }

    private static void graftErrors() {
        Sentence.in("Promise 4").says("UNKNOWN (node or parent)", () -> {
            AncestorLooks looks = Trees.oneGone();
            Trees.noNodes("graft to the root", node -> looks.graft(node, 0));
            Trees.noNodes("graft elsewhere", parent -> looks.graft(3, parent));
            Trees.noNodes("graft of the root elsewhere", parent -> looks.graft(0, parent));
            Trees.noNodes("graft below itself", node -> looks.graft(node, node));
        }).says("NOT_POSSIBLE if the node is the root", () -> {
            Due.is("below its child", Due.chain(2).graft(0, 1), NOT_POSSIBLE);
            Due.is("below its leaf", Due.chain(2).graft(0, 2), NOT_POSSIBLE);
            Due.is("the root alone", new AncestorLooks().graft(0, 0), NOT_POSSIBLE);
        }).says("or the new parent is in its branch", () -> {
            AncestorLooks looks = Due.grown("((()))()");
            Due.is("itself", looks.graft(1, 1), NOT_POSSIBLE);
            Due.is("a leaf below itself", looks.graft(4, 4), NOT_POSSIBLE);
            Due.is("its child", looks.graft(1, 2), NOT_POSSIBLE);
            Due.is("its child's child", looks.graft(1, 3), NOT_POSSIBLE);
            Due.is("not in its branch, though deeper", looks.graft(4, 3), 0);
            Due.is("in its branch, with a higher number", looks.graft(1, 4), NOT_POSSIBLE);
            looks.graft(4, 0);
            looks.graft(1, 4);
            Due.is("in its branch, with a lower number", looks.graft(4, 1), NOT_POSSIBLE);
        }).says("NONE if it is its parent already", () -> {
            AncestorLooks looks = Due.grown("(())");
            Due.is("the root", looks.graft(1, 0), NONE);
            Due.is("another one", looks.graft(2, 1), NONE);
            looks.graft(2, 0);
            Due.is("the new one", looks.graft(2, 0), NONE);
            Due.is("not the one that was", looks.graft(2, 1), 0);
        });
    }

    private static void setLength() {
        Sentence.in("Promise 5").says("Changes the length of a node.", () -> {
            AncestorLooks looks = Due.grown("(())()");
            looks.setLength(1, Due.bits(0.5f));
            Due.real("its length", looks.real(1, 0), 0.5f);
            Due.real("the path length below it", looks.real(2, 1), 1.5f);
            Due.real("the length of another one", looks.real(3, 0), 1.0f);
        }).says("This is an act.", () -> {
            AncestorLooks looks = Due.grown("()");
            looks.setLength(1, TWO);
            Due.is("states", looks.count(8), 2);
            Due.is("undo()", looks.undo(), 1);
            Due.real("its length", looks.real(1, 0), 1.0f);
        }).says("`node`: a node", () -> {
            AncestorLooks looks = Trees.oneGone();
            Due.is("the lowest below the root", looks.setLength(1, TWO), ONE);
            Due.is("the highest", looks.setLength(3, TWO), ONE);
        }).says("the bits of the length", () -> {
            float[] lengths = {0.0f, Float.MIN_VALUE, 0.1f, Math.nextDown(1000.0f), 1000.0f};
            for (float length : lengths) {
                AncestorLooks looks = Due.grown("()");
                looks.setLength(1, Float.floatToRawIntBits(length));
                Due.real("the length", looks.real(1, 0), length);
            }
        }).says("the bits that it had", () -> {
            AncestorLooks looks = Due.grown("()");
            Due.is("of 1.0f", looks.setLength(1, ZERO), 0x3F800000);
            Due.is("of 0.0f", looks.setLength(1, THOUSAND), 0);
            Due.is("of 1000.0f", looks.setLength(1, Due.bits(Float.MIN_VALUE)), 0x447A0000);
            Due.is("of the least one", looks.setLength(1, ONE), 1);
        });
    }

    private static void setLengthErrors() {
        Sentence.in("Promise 5").says("UNKNOWN", () -> {
            AncestorLooks looks = Trees.oneGone();
            Trees.noNodes("setLength", node -> looks.setLength(node, TWO));
            Trees.noNodes("setLength, and to no length,", node -> looks.setLength(node, MINUS_ZERO));
        }).says("BAD_VALUE (as for addLeaf())", () -> {
            AncestorLooks looks = Due.grown("()");
            for (int bits : NO_LENGTHS) {
                Due.is("bits " + bits, looks.setLength(1, bits), BAD_VALUE);
                Due.is("bits " + bits + " of the root", looks.setLength(0, bits), BAD_VALUE);
            }
            looks.setLength(1, ZERO);
            Due.is("-0.0f in place of 0.0f", looks.setLength(1, MINUS_ZERO), BAD_VALUE);
        }).says("NOT_POSSIBLE if it is the root", () -> {
            AncestorLooks looks = Due.grown("()");
            Due.is("1.0f", looks.setLength(0, ONE), NOT_POSSIBLE);
            Due.is("0.0f, which it has", looks.setLength(0, ZERO), NOT_POSSIBLE);
            Due.real("its length", looks.real(0, 0), 0.0f);
        }).says("NONE if it is so already", () -> {
            AncestorLooks looks = Due.grown("()");
            Due.is("1.0f", looks.setLength(1, ONE), NONE);
            Due.is("the next float", looks.setLength(1, ONE + 1), ONE);
            Due.is("again", looks.setLength(1, ONE + 1), NONE);
            looks.setLength(1, ZERO);
            Due.is("0.0f", looks.setLength(1, ZERO), NONE);
            looks.setLength(1, THOUSAND);
            Due.is("1000.0f", looks.setLength(1, THOUSAND), NONE);
        });
    }
}
