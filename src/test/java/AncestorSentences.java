/** Promises 12 to 16, sentence by sentence. */
final class AncestorSentences implements Answers {
    private static final int[] NEGATIVE = {-1, -2, -90, MIN};

    private AncestorSentences() {
    }

    static void all() {
        ancestor();
        looks();
        jump();
        ladderAt();
        node();
        nodeOfLongWays();
    }

    private static void ancestor() {
        Sentence.in("Promise 12").says("`node`: a node", () -> {
            AncestorLooks looks = Trees.oneGone();
            Due.is("the lowest", looks.ancestor(0, 0), 0);
            Due.is("the highest", looks.ancestor(3, 1), 1);
        }).says("`steps`: 0 or more", () -> {
            AncestorLooks looks = Due.chain(89);
            for (int steps = 0; steps <= 89; steps++) {
                Due.is("by " + steps, looks.ancestor(89, steps), 89 - steps);
            }
        }).says("the ancestor by so many steps", () -> {
            AncestorLooks looks = Trees.sidewards();
            Due.is("by one", looks.ancestor(17, 1), 12);
            Due.is("on the ladder of another long way", looks.ancestor(17, 7), 6);
            Due.is("the root", looks.ancestor(17, 13), 0);
            looks.graft(12, 3);
            Due.is("the root, after a graft", looks.ancestor(17, 5), 0);
        }).says("(the node itself by 0)", () -> {
            AncestorLooks looks = Due.chain(2);
            Due.is("the root", looks.ancestor(0, 0), 0);
            Due.is("one between", looks.ancestor(1, 0), 1);
            Due.is("a leaf", looks.ancestor(2, 0), 2);
        }).says("UNKNOWN", () -> {
            AncestorLooks looks = Trees.oneGone();
            Trees.noNodes("ancestor by 0", node -> looks.ancestor(node, 0));
            Trees.noNodes("ancestor by -1", node -> looks.ancestor(node, -1));
            Trees.noNodes("ancestor by too many", node -> looks.ancestor(node, MAX));
        }).says("BAD_VALUE", () -> {
            AncestorLooks looks = Due.chain(2);
            for (int steps : NEGATIVE) {
                Due.is("by " + steps, looks.ancestor(2, steps), BAD_VALUE);
                Due.is("of the root by " + steps, looks.ancestor(0, steps), BAD_VALUE);
            }
        }).says("NONE if there are not so many", () -> {
            AncestorLooks looks = Due.chain(3);
            Due.is("the last one", looks.ancestor(3, 3), 0);
            Due.is("one more", looks.ancestor(3, 4), NONE);
            Due.is("90", looks.ancestor(3, 90), NONE);
            Due.is("the most", looks.ancestor(3, MAX), NONE);
            Due.is("of the root one", looks.ancestor(0, 1), NONE);
        });
    }

    private static void looks() {
        Sentence.in("Promise 13").says("`node`: a node", () -> {
            AncestorLooks looks = Trees.oneGone();
            Due.is("the lowest", looks.looks(0, 0), 0);
            Due.is("the highest", looks.looks(3, 2), 1);
        }).says("`steps`: 0 or more", () -> {
            AncestorLooks looks = Due.chain(89);
            Due.is("by 0", looks.looks(89, 0), 0);
            for (int steps = 1; steps <= 89; steps++) {
                Due.is("by " + steps, looks.looks(89, steps), 1);
            }
        }).says("the looks by which the ancestor is told", () -> {
            AncestorLooks looks = Trees.sidewards();
            int[] due = {0, 1, 2, 3, 2, 3, 3, 3, 2, 3, 3, 3, 3, 3};
            for (int steps = 0; steps < due.length; steps++) {
                Due.is("of 17 by " + steps, looks.looks(17, steps), due[steps]);
            }
        }).says("UNKNOWN", () -> {
            AncestorLooks looks = Trees.oneGone();
            Trees.noNodes("looks by 0", node -> looks.looks(node, 0));
            Trees.noNodes("looks by -1", node -> looks.looks(node, -1));
            Trees.noNodes("looks by too many", node -> looks.looks(node, MAX));
        }).says("BAD_VALUE", () -> {
            AncestorLooks looks = Due.chain(2);
            for (int steps : NEGATIVE) {
                Due.is("by " + steps, looks.looks(2, steps), BAD_VALUE);
                Due.is("of the root by " + steps, looks.looks(0, steps), BAD_VALUE);
            }
        }).says("NONE if there are not so many", () -> {
            AncestorLooks looks = Trees.sidewards();
            Due.is("the last one", looks.looks(17, 13), 3);
            Due.is("one more than there are", looks.looks(17, 14), NONE);
            Due.is("the last one on a ladder", looks.looks(3, 3), 1);
            Due.is("one more, though the ladder has more nodes", looks.looks(3, 4), NONE);
            Due.is("the most", looks.looks(17, MAX), NONE);
            Due.is("the most, of one between", looks.looks(3, MAX), NONE);
            Due.is("of the root one", looks.looks(0, 1), NONE);
        });
    }

    private static void jump() {
        Sentence.in("Promise 14").says("`leaf`: a node", () -> {
            AncestorLooks looks = Due.grown("()(())");
            Due.is("the lowest leaf", looks.jump(1, 0), 0);
            Due.is("the highest", looks.jump(3, 0), 2);
        }).says("`power`: 0 to 6", () -> {
            AncestorLooks looks = Due.chain(64);
            int[] due = {63, 62, 60, 56, 48, 32, 0};
            for (int power = 0; power < due.length; power++) {
                Due.is("power " + power, looks.jump(64, power), due[power]);
            }
        }).says("the ancestor to which its jump by 2 to this power leads", () -> {
            AncestorLooks looks = Trees.sidewards();
            int[] due = {12, 11, 9, 5};
            for (int power = 0; power < due.length; power++) {
                Due.is("power " + power, looks.jump(17, power), due[power]);
            }
        }).says("UNKNOWN", () -> {
            AncestorLooks looks = Trees.oneGone();
            Trees.noNodes("jump by 1", node -> looks.jump(node, 0));
            Trees.noNodes("jump by the power -1", node -> looks.jump(node, -1));
            Trees.noNodes("jump by the power 7", node -> looks.jump(node, 7));
        }).says("BAD_VALUE", () -> {
            AncestorLooks looks = Due.chain(89);
            for (int power : new int[] {-1, -31, -32, MIN, 7, 8, 31, 32, 33, 38, 64, MAX}) {
                Due.is("power " + power, looks.jump(89, power), BAD_VALUE);
                Due.is("power " + power + " of no leaf", looks.jump(88, power), BAD_VALUE);
            }
        }).says("NOT_POSSIBLE if it is no leaf", () -> {
            AncestorLooks looks = Due.chain(2);
            Due.is("there would be a jump", looks.jump(1, 0), NOT_POSSIBLE);
            Due.is("there would be none", looks.jump(1, 1), NOT_POSSIBLE);
            Due.is("the root", looks.jump(0, 0), NOT_POSSIBLE);
            looks.prune(2);
            Due.is("a leaf now", looks.jump(1, 0), 0);
        }).says("NONE if there is no such jump", () -> {
            for (int power = 0; power <= 6; power++) {
                int leaf = (1 << power) - 1;
                AncestorLooks looks = Due.chain(leaf);
                Due.is("power " + power + " of one step too few", looks.jump(leaf, power), NONE);
                looks.addLeaf(leaf, ONE);
                Due.is("power " + power + " of just so many", looks.jump(leaf + 1, power), 0);
            }
            Due.is("of the root alone", new AncestorLooks().jump(0, 6), NONE);
        });
    }

    private static void ladderAt() {
        Sentence.in("Promise 15").says("`node`: a node", () -> {
            AncestorLooks looks = Trees.oneGone();
            Due.is("the lowest", looks.ladderAt(0, 0), 3);
            Due.is("the highest", looks.ladderAt(3, 2), 0);
        }).says("`place`: a place on the ladder of its long way, from the leaf on, from 0", () -> {
            AncestorLooks looks = Due.chain(89);
            for (int place = 0; place <= 89; place++) {
                Due.is("place " + place, looks.ladderAt(40, place), 89 - place);
            }
        }).says("the node there", () -> {
            AncestorLooks looks = Trees.sidewards();
            looks.addLeaf(17, ONE);
            int[] due = {18, 17, 12, 11};
            for (int place = 0; place < due.length; place++) {
                Due.is("of 17 at " + place, looks.ladderAt(17, place), due[place]);
                Due.is("of 18 at " + place, looks.ladderAt(18, place), due[place]);
            }
            Due.is("of 12 at 0", looks.ladderAt(12, 0), 16);
        }).says("UNKNOWN", () -> {
            AncestorLooks looks = Trees.oneGone();
            Trees.noNodes("ladderAt 0", node -> looks.ladderAt(node, 0));
            Trees.noNodes("ladderAt -1", node -> looks.ladderAt(node, -1));
            Trees.noNodes("ladderAt the most", node -> looks.ladderAt(node, MAX));
        }).says("BAD_VALUE if place is negative", () -> {
            AncestorLooks looks = Due.chain(2);
            for (int place : NEGATIVE) {
                Due.is("place " + place, looks.ladderAt(1, place), BAD_VALUE);
            }
        }).says("NONE if the ladder has not so many", () -> {
            AncestorLooks looks = Trees.sidewards();
            Due.is("behind the last one", looks.ladderAt(17, 2), NONE);
            Due.is("the root is the last one", looks.ladderAt(5, 16), 0);
            Due.is("behind the root", looks.ladderAt(5, 17), NONE);
            Due.is("the most", looks.ladderAt(5, MAX), NONE);
            Due.is("the root alone", new AncestorLooks().ladderAt(0, 1), NONE);
        });
    }

    /** 0 has 1 (with 2 and, below it, 3), 4 (with 5 and, below it, 6) and 7. */
    private static final String TWO_LONG_ONE_SHORT = "((()))((()))()";

    private static void nodes(String what, int number, int... due) {
        AncestorLooks looks = Due.grown(TWO_LONG_ONE_SHORT);
        for (int node = 0; node < due.length; node++) {
            Due.is(what + " of " + node, looks.node(node, number), due[node]);
        }
    }

    private static void node() {
        Sentence.in("Promise 16").says("`node`: a node", () -> {
            AncestorLooks looks = Trees.oneGone();
            Due.is("the lowest", looks.node(0, 1), 0);
            Due.is("the highest", looks.node(3, 1), 2);
        }).says("0 for its parent (NONE for the root)", () -> nodes("the parent", 0, NONE, 0, 1, 2, 0, 4, 5, 0))
        .says("1 for its depth", () -> nodes("the depth", 1, 0, 1, 2, 3, 1, 2, 3, 1))
        .says("2 for its height", () -> nodes("the height", 2, 3, 2, 1, 0, 2, 1, 0, 0))
        .says("3 for its children", () -> nodes("the children", 3, 3, 1, 1, 0, 1, 1, 0, 0))
        .says("4 for the nodes of its branch", () -> nodes("the nodes of the branch", 4, 8, 3, 2, 1, 3, 2, 1, 1))
        .says("the number", () -> {
            AncestorLooks looks = Due.chain(89);
            int[] due = {43, 44, 45, 1, 46, 45, 0, 89, 90, 90};
            for (int what = 0; what < due.length; what++) {
                Due.is("what " + what, looks.node(44, what), due[what]);
            }
        }).says("UNKNOWN", () -> {
            AncestorLooks looks = Trees.oneGone();
            for (int what = -1; what <= 10; what++) {
                int asked = what;
                Trees.noNodes("what " + what, node -> looks.node(node, asked));
            }
        }).says("BAD_VALUE", () -> {
            AncestorLooks looks = Due.chain(1);
            for (int what : new int[] {-1, MIN, 10, 11, 90, MAX}) {
                Due.is("what " + what, looks.node(1, what), BAD_VALUE);
                Due.is("what " + what + " of the root", looks.node(0, what), BAD_VALUE);
            }
        });
    }

    private static void nodeOfLongWays() {
        Sentence.in("Promise 16").says("5 for its long child (NONE for a leaf)",
                () -> nodes("the long child", 5, 1, 2, 3, NONE, 5, 6, NONE, NONE))
        .says("6 for the uppermost node of its long way", () -> nodes("the uppermost node", 6, 0, 0, 0, 0, 4, 4, 4, 7))
        .says("7 for the leaf of that", () -> nodes("the leaf", 7, 3, 3, 3, 3, 6, 6, 6, 7))
        .says("8 for the nodes of that", () -> nodes("the nodes", 8, 4, 4, 4, 4, 3, 3, 3, 1))
        .says("9 for the nodes of its ladder", () -> nodes("the nodes of the ladder", 9, 4, 4, 4, 4, 4, 4, 4, 2));
    }
}
