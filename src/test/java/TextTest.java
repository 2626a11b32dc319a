/** Promises 6 to 8: type, clearText, grow. */
public final class TextTest {
    public static void main(String[] args) {
        type();
        clearText();
        faults();
        grow();
        growIsOneAct();
        growUntilFull();
        Due.end();
    }

    private static void type() {
        AncestorLooks looks = new AncestorLooks();
        char[] any = {'(', ')', 'x', ' ', 0, 127, 255, 0xFFFF};
        for (int at = 0; at < 60; at++) {
            Due.is("type() " + at, looks.type(any[at % any.length]), at + 1);
        }
        Due.is("the 61st character", looks.type('('), AncestorLooks.FULL);
        Due.is("the length", looks.count(9), 60);
        Due.is("no act", looks.count(8), 0);
    }

    private static void clearText() {
        AncestorLooks looks = new AncestorLooks();
        Due.is("clearText() of the empty text", looks.clearText(), 0);
        Due.typeAll(looks, "(()");
        Due.is("clearText()", looks.clearText(), 3);
        Due.is("the length", looks.count(9), 0);
        Due.is("clearText() again", looks.clearText(), 0);
        Due.is("type() after it", looks.type('('), 1);
        Due.is("no act", looks.count(8), 0);
        for (int at = 0; at < 60; at++) {
            looks.type('(');
        }
        Due.is("clearText() of the longest one", looks.clearText(), 60);
    }

    private static void faults() {
        fault("", 0);
        fault("(", 1);
        fault(")", 0);
        fault("x", 0);
        fault("((", 2);
        fault("())", 2);
        fault("()(", 3);
        fault("(()", 3);
        fault("()x", 2);
        fault("(x)", 1);
        fault("()())(", 4);
        fault("( )", 1);
        fault("(\u0128)", 1);
        fault("()" + (char) 0, 2);
        fault("(".repeat(60), 60);
        fault("()".repeat(29) + "((", 60);
        fault("()".repeat(29) + ")(", 58);
    }

    private static void fault(String text, int fault) {
        AncestorLooks looks = new AncestorLooks();
        Due.typeAll(looks, text);
        Due.is("grow(0) of " + text, looks.grow(0), -100 - fault);
        Due.is("UNKNOWN before the fault of " + text, looks.grow(1), AncestorLooks.UNKNOWN);
        Due.is("the text stays", looks.count(9), text.length());
        Due.is("no node came", looks.count(1), 1);
        Due.is("no act", looks.count(8), 0);
    }

    private static void grow() {
        AncestorLooks looks = new AncestorLooks();
        Due.typeAll(looks, "(()(()))()");
        Due.is("grow(0)", looks.grow(0), 5);
        int[] parents = {AncestorLooks.NONE, 0, 1, 1, 3, 0};
        for (int node = 0; node < parents.length; node++) {
            Due.is("the parent of " + node, looks.node(node, 0), parents[node]);
        }
        Due.real("a length", looks.real(4, 0), 1.0f);
        Due.is("the bits of a length", looks.setLength(4, 0), Due.bits(1.0f));
        Due.is("the text stays", looks.count(9), 10);
        Due.is("grow(4)", looks.grow(4), 5);
        Due.is("the parent of 6", looks.node(6, 0), 4);
        Due.is("the parent of 9", looks.node(9, 0), 8);
        Due.is("the parent of 10", looks.node(10, 0), 4);
        Due.is("no node", looks.grow(-1), AncestorLooks.UNKNOWN);
        Due.is("no node", looks.grow(11), AncestorLooks.UNKNOWN);
        looks.prune(10);
        Due.is("one that is gone", looks.grow(10), AncestorLooks.UNKNOWN);
        Due.is("its number is not given again", looks.grow(0), 5);
        Due.is("the first one that came", looks.node(11, 0), 0);
    }

    private static void growIsOneAct() {
        AncestorLooks looks = new AncestorLooks();
        Due.typeAll(looks, "()(())");
        looks.grow(0);
        Due.is("one state", looks.count(8), 1);
        Due.is("undo()", looks.undo(), 0);
        Due.is("all that came is gone", looks.count(0), 1);
        Due.is("and their numbers", looks.count(1), 1);
        Due.is("the text stays", looks.count(9), 6);
        Due.is("grow(0) again", looks.grow(0), 3);
    }

    private static void growUntilFull() {
        AncestorLooks looks = new AncestorLooks();
        Due.typeAll(looks, "()".repeat(30));
        Due.is("30 more", looks.grow(0), 30);
        Due.is("30 more", looks.grow(30), 30);
        Due.is("30 more than 90", looks.grow(0), AncestorLooks.FULL);
        Due.is("UNKNOWN before FULL", looks.grow(61), AncestorLooks.UNKNOWN);
        Due.is("nothing came", looks.count(1), 61);
        Due.is("no act", looks.count(8), 2);
        looks.clearText();
        Due.typeAll(looks, "(" + "()".repeat(28) + ")");
        Due.is("29 more are just 90", looks.grow(60), 29);
        Due.is("there have been", looks.count(1), 90);
        Due.is("one more", looks.grow(60), AncestorLooks.FULL);
        looks.type('(');
        Due.is("the fault before FULL", looks.grow(60), -100 - 59);
    }
}
