/** Promises 9 to 11, sentence by sentence. */
final class HistorySentences implements Answers {
    private HistorySentences() {
    }

    static void all() {
        undo();
        keep();
        restore();
    }

    private static void undo() {
        Sentence.in("Promise 9").says("Removes and restores the latest state of the history.", () -> {
            AncestorLooks looks = Due.chain(2);
            looks.setLength(1, TWO);
            looks.graft(2, 0);
            looks.undo();
            Due.is("the latest one is restored", looks.node(2, 0), 1);
            Due.real("not the one before", looks.real(1, 0), 2.0f);
            Due.is("it is removed", looks.count(8), 3);
            looks.undo();
            Due.real("then the one before", looks.real(1, 0), 1.0f);
            Due.is("is restored", looks.count(0), 3);
        }).says("the number of states that are left", () -> {
            AncestorLooks looks = Due.chain(1);
            Due.is("of one", looks.undo(), 0);
            AncestorLooks more = Due.chain(6);
            for (int left = 3; left >= 0; left--) {
                Due.is("of " + (left + 1), more.undo(), left);
            }
        }).says("NONE if the history is empty", () -> {
            AncestorLooks looks = new AncestorLooks();
            Due.is("at first", looks.undo(), NONE);
            looks.keep();
            looks.type('(');
            looks.prune(0);
            Due.is("after calls that are no acts", looks.undo(), NONE);
            looks.addLeaf(0, ONE);
            looks.undo();
            Due.is("when all is undone", looks.undo(), NONE);
            AncestorLooks more = Due.chain(6);
            Due.undoTimes(more, 4);
            Due.is("when four are undone", more.undo(), NONE);
            Due.is("and those that were dropped stay", more.count(0), 3);
        });
    }

    private static void keep() {
        Sentence.in("Promise 10").says("Takes a snapshot of the state", () -> {
            AncestorLooks looks = Trees.withLengths("()(())", 0.5f);
            looks.prune(3);
            looks.keep();
            looks.addLeaf(0, ONE);
            looks.setLength(1, ZERO);
            looks.graft(1, 2);
            looks.restore();
            Due.is("parents", looks.node(1, 0), 0);
            Due.real("lengths", looks.real(1, 0), 0.5f);
            Due.is("what was gone", looks.node(3, 0), UNKNOWN);
            Due.is("the numbers that had been given", looks.addLeaf(0, ONE), 4);
        }).says(", in place of the one that was.", () -> {
            AncestorLooks looks = Due.chain(1);
            looks.keep();
            looks.addLeaf(1, ONE);
            looks.keep();
            looks.addLeaf(2, ONE);
            Due.is("restore()", looks.restore(), 3);
            Due.is("and again", looks.restore(), 3);
        }).says("the number of nodes that are there", () -> {
            AncestorLooks looks = new AncestorLooks();
            Due.is("the root alone", looks.keep(), 1);
            Due.is("not those that are gone", Trees.oneGone().keep(), 3);
            Due.is("the most", Due.chain(89).keep(), 90);
        });
    }

    private static void restore() {
        Sentence.in("Promise 11").says("Restores the state of the snapshot", () -> {
            AncestorLooks looks = new AncestorLooks();
            looks.keep();
            looks.addLeaf(0, ONE);
            looks.addLeaf(1, ONE);
            looks.restore();
            Due.is("nodes that are there", looks.count(0), 1);
            Due.is("nodes that there have been", looks.count(1), 1);
            Due.is("a number is given again", looks.addLeaf(0, TWO), 1);
        }).says(", which stays.", () -> {
            AncestorLooks looks = Due.chain(1);
            looks.keep();
            for (int time = 0; time < 3; time++) {
                looks.setLength(1, TWO);
                looks.prune(1);
                Due.is("restore()", looks.restore(), 2);
                Due.real("the length", looks.real(1, 0), 1.0f);
            }
        }).says("This is an act.", () -> {
            AncestorLooks looks = new AncestorLooks();
            looks.keep();
            looks.addLeaf(0, ONE);
            looks.restore();
            Due.is("states", looks.count(8), 2);
            looks.restore();
            Due.is("also if all is so already", looks.count(8), 3);
            looks.undo();
            Due.is("undo() of that", looks.count(0), 1);
            looks.undo();
            Due.is("undo() of the first one", looks.count(0), 2);
        }).says("the number of nodes that are there then", () -> {
            AncestorLooks looks = Trees.oneGone();
            looks.keep();
            looks.prune(3);
            looks.prune(1);
            Due.is("more than before", looks.restore(), 3);
            looks.addLeaf(0, ONE);
            looks.addLeaf(0, ONE);
            Due.is("fewer than before", looks.restore(), 3);
            AncestorLooks most = Due.chain(89);
            most.keep();
            Due.is("the most", most.restore(), 90);
        }).says("NONE if there is no snapshot", () -> {
            AncestorLooks looks = new AncestorLooks();
            Due.is("at first", looks.restore(), NONE);
            looks.addLeaf(0, ONE);
            Due.is("though there is a history", looks.restore(), NONE);
            looks.undo();
            Due.is("after undo()", looks.restore(), NONE);
            Due.is("no act", looks.count(8), 0);
            looks.keep();
            Due.is("after keep()", looks.restore(), 1);
        });
    }
}
