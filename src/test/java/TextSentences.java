/** Promises 6 to 8, sentence by sentence. */
final class TextSentences implements Answers {
    private TextSentences() {
    }

    static void all() {
        type();
        clearText();
        grow();
        growErrors();
    }

    private static AncestorLooks typed(String text) {
        AncestorLooks looks = new AncestorLooks();
        Due.typeAll(looks, text);
        return looks;
    }

    private static void type() {
        Sentence.in("Promise 6").says("Types a character behind the text.", () -> {
            Due.is("()) is faulty at its end", typed("())").grow(0), -102);
            Due.is(")() is so at its beginning", typed(")()").grow(0), -100);
            AncestorLooks looks = typed("(");
            Due.is("( ends too early", looks.grow(0), -101);
            looks.type(')');
            Due.is("() does not", looks.grow(0), 1);
        }).says("any character", () -> {
            AncestorLooks looks = new AncestorLooks();
            char[] any = {'(', ')', 'x', ' ', '\n', 0, 127, 128, 255, 256, 0x0128, 0xD800, 0xFFFF};
            for (int at = 0; at < any.length; at++) {
                Due.is("the character " + (int) any[at], looks.type(any[at]), at + 1);
            }
        }).says("the length of the text then", () -> {
            AncestorLooks looks = new AncestorLooks();
            Due.is("one", looks.type('('), 1);
            Due.is("two", looks.type('('), 2);
            looks.clearText();
            Due.is("one again", looks.type('('), 1);
        }).says("FULL if it has 60 characters", () -> {
            AncestorLooks looks = typed("(".repeat(59));
            Due.is("the 60th", looks.type(')'), 60);
            Due.is("the 61st", looks.type(')'), FULL);
            Due.is("and once more", looks.type('x'), FULL);
            looks.clearText();
            Due.is("after clearText()", looks.type('('), 1);
        });
    }

    private static void clearText() {
        Sentence.in("Promise 7").says("Empties the text.", () -> {
            AncestorLooks looks = typed("x(");
            looks.clearText();
            Due.is("its length", looks.count(9), 0);
            Due.is("its fault", looks.grow(0), -100);
            Due.typeAll(looks, "()");
            Due.is("what is typed then stands alone", looks.grow(0), 1);
        }).says("the length that it had", () -> {
            AncestorLooks looks = new AncestorLooks();
            Due.is("empty at first", looks.clearText(), 0);
            looks.type('x');
            Due.is("one", looks.clearText(), 1);
            Due.is("empty again", looks.clearText(), 0);
            Due.is("the most", typed("x".repeat(60)).clearText(), 60);
            AncestorLooks full = typed("x".repeat(60));
            full.type('x');
            Due.is("no more than the most", full.clearText(), 60);
        });
    }

    private static void grow() {
        Sentence.in("Promise 8").says("Grows the branches of the text", () -> {
            AncestorLooks looks = Due.grown("(()(()))()");
            int[] parents = {NONE, 0, 1, 1, 3, 0};
            for (int node = 0; node < parents.length; node++) {
                Due.is("the parent of " + node, looks.node(node, 0), parents[node]);
            }
        }).says(", which stays,", () -> {
            AncestorLooks looks = typed("(())");
            looks.grow(0);
            Due.is("its length", looks.count(9), 4);
            Due.is("it grows again", looks.grow(0), 2);
            Due.is("and is typed on", looks.type('('), 5);
        }).says("below a node", () -> {
            AncestorLooks looks = typed("()(())");
            looks.grow(0);
            looks.grow(3);
            Due.is("the first branch", looks.node(4, 0), 3);
            Due.is("the second branch", looks.node(5, 0), 3);
            Due.is("and what is in it", looks.node(6, 0), 5);
        }).says("in the order in which their \"(\" come", () -> {
            AncestorLooks looks = Due.grown("((())())(())");
            int[] depths = {0, 1, 2, 3, 2, 1, 2};
            for (int node = 0; node < depths.length; node++) {
                Due.is("the depth of " + node, looks.node(node, 1), depths[node]);
            }
        }).says("each node with the length 1.0f.", () -> {
            AncestorLooks looks = Due.grown("(()())");
            for (int node = 1; node <= 3; node++) {
                Due.real("the length of " + node, looks.real(node, 0), 1.0f);
                Due.is("its bits", looks.setLength(node, ONE), NONE);
            }
        }).says("This is one act.", () -> {
            AncestorLooks looks = typed("(()())()()");
            looks.grow(0);
            Due.is("states", looks.count(8), 1);
            Due.is("undo()", looks.undo(), 0);
            Due.is("nodes that are there", looks.count(0), 1);
            Due.is("nodes that there have been", looks.count(1), 1);
        }).says("`parent`: a node", () -> {
            AncestorLooks looks = Trees.oneGone();
            Due.typeAll(looks, "()");
            Due.is("the lowest", looks.grow(0), 1);
            Due.is("the highest", looks.grow(4), 1);
            Due.is("its parent", looks.node(5, 0), 4);
        }).says("how many nodes come", () -> {
            Due.is("one", typed("()").grow(0), 1);
            Due.is("in one branch", typed("((()()))").grow(0), 4);
            Due.is("the most, beside each other", typed("()".repeat(30)).grow(0), 30);
            Due.is("the most, below each other", typed("(".repeat(30) + ")".repeat(30)).grow(0), 30);
        });
    }

    private static void growErrors() {
        Sentence.in("Promise 8").says("UNKNOWN", () -> {
            AncestorLooks looks = Trees.oneGone();
            Trees.noNodes("grow of the empty text, which has a fault,", looks::grow);
            Due.typeAll(looks, "()");
            Trees.noNodes("grow", looks::grow);
            AncestorLooks full = Trees.full();
            Due.is("and 90 nodes", full.grow(90), UNKNOWN);
        }).says("-100 minus the fault of the text if it has one (which is an error)", () -> {
            Due.is("the least fault", typed("").grow(0), -100);
            Due.is("the next one", typed("(").grow(0), -101);
            Due.is("the greatest one", typed("(".repeat(60)).grow(0), -160);
            Due.is("at the last character", typed("()".repeat(29) + "(x").grow(0), -159);
            AncestorLooks refused = typed("())");
            refused.grow(0);
            Due.is("no act", refused.count(8), 0);
            Due.is("none came", refused.count(1), 1);
            AncestorLooks looks = Trees.full();
            looks.clearText();
            Due.is("before FULL, of the empty text", looks.grow(0), -100);
            Due.typeAll(looks, "(()");
            Due.is("before FULL", looks.grow(0), -103);
        }).says("FULL if there would have been more than 90 nodes", () -> {
            AncestorLooks looks = Due.chain(87);
            Due.typeAll(looks, "()()()");
            Due.is("91 by many", looks.grow(0), FULL);
            Due.is("none came", looks.count(1), 88);
            looks.clearText();
            Due.typeAll(looks, "()()");
            Due.is("just 90", looks.grow(0), 2);
            Due.is("92", looks.grow(0), FULL);
            looks.prune(88);
            looks.prune(89);
            Due.is("those that are gone count", looks.grow(0), FULL);
            Due.undoTimes(looks, 3);
            Due.is("after undo there is room", looks.grow(0), 2);
            looks.clearText();
            Due.typeAll(looks, "()");
            Due.is("91 by one", looks.grow(0), FULL);
        });
    }
}
