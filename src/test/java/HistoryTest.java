/** Promises 9 to 11: undo, keep, restore. */
public final class HistoryTest {
    private static final int ONE = Due.bits(1.0f);

    public static void main(String[] args) {
        undo();
        atMostFour();
        undoOfEachAct();
        keep();
        restore();
        restoreIsAnAct();
        Due.end();
    }

    private static void undo() {
        AncestorLooks looks = new AncestorLooks();
        Due.is("undo() of nothing", looks.undo(), AncestorLooks.NONE);
        looks.addLeaf(0, ONE);
        looks.addLeaf(1, ONE);
        Due.is("undo()", looks.undo(), 1);
        Due.is("there are", looks.count(0), 2);
        Due.is("there have been", looks.count(1), 2);
        Due.is("the leaf is no node", looks.node(2, 1), AncestorLooks.UNKNOWN);
        Due.is("its number is given again", looks.addLeaf(0, ONE), 2);
        Due.is("undo()", looks.undo(), 1);
        Due.is("undo()", looks.undo(), 0);
        Due.is("undo() of nothing", looks.undo(), AncestorLooks.NONE);
        Due.is("the root stays", looks.count(0), 1);
        Due.is("undo() is no act", looks.count(8), 0);
    }

    private static void atMostFour() {
        AncestorLooks looks = Due.chain(7);
        Due.is("states", looks.count(8), 4);
        for (int left = 3; left >= 0; left--) {
            Due.is("undo()", looks.undo(), left);
            Due.is("there are", looks.count(0), left + 4);
        }
        Due.is("undo() of what was dropped", looks.undo(), AncestorLooks.NONE);
        Due.is("there are", looks.count(0), 4);
    }

    private static void undoOfEachAct() {
        AncestorLooks looks = Due.grown("(()())()");
        looks.prune(4);
        looks.undo();
        Due.is("what was pruned is back", looks.node(4, 0), 0);
        looks.graft(3, 4);
        looks.undo();
        Due.is("what was grafted is back", looks.node(3, 0), 1);
        Due.is("a child of its parent", looks.node(1, 3), 2);
        looks.setLength(3, Due.bits(7.5f));
        looks.undo();
        Due.real("the length is back", looks.real(3, 0), 1.0f);
        Due.is("its bits are back", looks.setLength(3, ONE), AncestorLooks.NONE);
        looks.type('(');
        looks.type(')');
        looks.grow(3);
        looks.type('(');
        looks.undo();
        Due.is("the text is no part of a state", looks.count(9), 3);
        Due.is("what was grown is gone", looks.node(3, 3), 0);
    }

    private static void keep() {
        AncestorLooks looks = Due.grown("(()())()");
        Due.is("keep()", looks.keep(), 5);
        Due.is("keep() is no act", looks.count(8), 1);
        looks.prune(2);
        Due.is("keep() in its place", looks.keep(), 4);
        looks.prune(3);
        Due.is("restore()", looks.restore(), 4);
        Due.is("there is", looks.node(3, 0), 1);
        Due.is("there is not", looks.node(2, 0), AncestorLooks.UNKNOWN);
        looks.undo();
        looks.undo();
        looks.undo();
        Due.is("undo leaves the snapshot", looks.restore(), 4);
    }

    private static void restore() {
        AncestorLooks looks = new AncestorLooks();
        Due.is("restore() of nothing", looks.restore(), AncestorLooks.NONE);
        Due.is("no act", looks.count(8), 0);
        looks.addLeaf(0, Due.bits(3.5f));
        looks.keep();
        looks.type('(');
        looks.setLength(1, 0);
        looks.addLeaf(1, ONE);
        looks.addLeaf(1, ONE);
        Due.is("restore()", looks.restore(), 2);
        Due.real("the length that was kept", looks.real(1, 0), 3.5f);
        Due.is("the number that was kept", looks.addLeaf(0, ONE), 2);
        Due.is("the text stays", looks.count(9), 1);
        Due.is("the snapshot stays", looks.restore(), 2);
        Due.is("and stays", looks.restore(), 2);
        Due.is("there have been", looks.count(1), 2);
    }

    private static void restoreIsAnAct() {
        AncestorLooks looks = new AncestorLooks();
        looks.keep();
        looks.addLeaf(0, ONE);
        looks.addLeaf(0, ONE);
        Due.is("restore()", looks.restore(), 1);
        Due.is("states", looks.count(8), 3);
        Due.is("restore() of what is so", looks.restore(), 1);
        Due.is("states", looks.count(8), 4);
        Due.is("undo()", looks.undo(), 3);
        Due.is("there are", looks.count(0), 1);
        Due.is("undo()", looks.undo(), 2);
        Due.is("there are", looks.count(0), 3);
        Due.is("undo()", looks.undo(), 1);
        Due.is("there are", looks.count(0), 2);
    }
}
