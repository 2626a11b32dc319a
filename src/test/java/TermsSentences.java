/** The first section and the terms, sentence by sentence. */
final class TermsSentences implements Answers {
    private TermsSentences() {
    }

    static void all() {
        whatItIs();
        numbers();
        tree();
        measuresOfNodes();
        longWays();
        laddersAndJumps();
        looks();
        distancesAndShapes();
        texts();
        faults();
        history();
        constants();
        errors();
        refusedGrowth();
        refusedTextsAndHistory();
        refusedQuestions();
        refusedWays();
    }

    private static void whatItIs() {
        Sentence.in("What it is").promisesNothing("A tree that grows at its leaves, and questions for ancestors that "
                + "are answered with few looks: long ways down the tree, ladders that are twice as long, jumps from "
                + "leaves by powers of two, meeting places, ways from node to node, lengths in floats, what is within "
                + "reach, the farthest nodes, shapes of small branches as numbers and how often they occur, branches "
                + "that are grafted elsewhere, branches that are grown from a text with the places of faults, undo and "
                + "a snapshot.")
        .says("An object is used for at most 512 calls after it has been made", () -> {
            AncestorLooks looks = afterCalls(510);
            Due.is("the 511th call", looks.addLeaf(0, ONE), 1);
            Due.is("the 512th call, an act", looks.addLeaf(1, ONE), 2);
            AncestorLooks asked = afterCalls(508);
            for (int node = 1; node <= 3; node++) {
                asked.addLeaf(node - 1, ONE);
            }
            Due.is("the 512th call, a question", asked.node(3, 1), 3);
            AncestorLooks undone = afterCalls(510);
            undone.addLeaf(0, ONE);
            Due.is("the 512th call, undo()", undone.undo(), 0);
            AncestorLooks most = Due.chain(89);
            for (int call = 90; call < 512; call++) {
                Due.is("apart(1) of the most nodes", most.apart(1), 89);
            }
            Due.is("the 512th call, of the most nodes", most.farthest(89), 0);
        }).promisesNothing("what later calls answer is free.");
    }

    /** A root alone that has had so many calls, an even number. */
    private static AncestorLooks afterCalls(int calls) {
        AncestorLooks looks = new AncestorLooks();
        for (int call = 0; call < calls; call += 2) {
            Due.is("addLeaf()", looks.addLeaf(0, ONE), 1);
            Due.is("undo()", looks.undo(), 0);
        }
        return looks;
    }

    private static void numbers() {
        Sentence.in("Terms").says("Lengths and distances are floats (32 bits, IEEE 754).", () -> {
            AncestorLooks looks = Trees.withLengths("(())", 1000.0f, 0.00001f);
            Due.real("so small a length is lost", looks.real(2, 1), 1000.0f);
            AncestorLooks least = Trees.withLengths("(())", Float.MIN_VALUE, Float.MIN_VALUE);
            Due.real("the least ones are not", least.real(2, 1), 2.0f * Float.MIN_VALUE);
            Due.real("nor is their difference", least.distance(1, 2), Float.MIN_VALUE);
        }).says("Each operation with them is done in floats, rounded by itself, in the order in which it is "
                + "written.", () -> {
            float m = 511.9f;
            float p = m + 0.1f;
            float q = m + 0.3f;
            float due = (p - m) + (q - m);
            AncestorLooks looks = Trees.withLengths("(()())", m, 0.1f, 0.3f);
            Due.real("a distance", looks.distance(2, 3), due);
            Due.holds("another order is seen", due != (p + q) - 2.0f * m && due != ((p - m) + q) - m);
            Due.holds("a sum of the lengths is seen", due != 0.1f + 0.3f);
            Due.holds("sums of doubles are seen", due != (float) ((m + (double) 0.1f - m) + (m + (double) 0.3f - m)));
            AncestorLooks down = Trees.withLengths("((()))", 999.9f, 0.1f, 0.3f);
            float path = (999.9f + 0.1f) + 0.3f;
            Due.real("a path length from the root on", down.real(3, 1), path);
            Due.holds("from the node on is seen", path != (0.3f + 0.1f) + 999.9f);
            Due.holds("a sum of doubles is seen", path != (float) ((double) 999.9f + 0.1f + 0.3f));
            AncestorLooks tiny = new AncestorLooks();
            tiny.addLeaf(0, THOUSAND);
            for (int node = 2; node <= 80; node++) {
                tiny.addLeaf(node - 1, Due.bits(0.00001f));
            }
            Due.real("each sum is rounded by itself", tiny.real(80, 1), 1000.0f);
        });
    }

    private static void tree() {
        Sentence.in("Terms").says("There are at most 90 nodes ever", () -> {
            Due.is("one more leaf", Due.chain(89).addLeaf(0, ONE), FULL);
            AncestorLooks looks = Due.chain(89);
            for (int node = 89; node > 0; node--) {
                looks.prune(node);
            }
            Due.is("also if only the root is there", looks.addLeaf(0, ONE), FULL);
            Due.typeAll(looks, "()");
            Due.is("also by a text", looks.grow(0), FULL);
            Due.is("there have been", looks.count(1), 90);
        }).says("numbered from 0 in the order in which they came.", () -> {
            AncestorLooks looks = new AncestorLooks();
            Due.is("the root", looks.node(0, 1), 0);
            Due.is("the first leaf", looks.addLeaf(0, ONE), 1);
            Due.typeAll(looks, "(()())");
            looks.grow(0);
            Due.is("behind those of a text", looks.addLeaf(0, ONE), 5);
            Due.is("the highest number", Due.chain(88).addLeaf(0, ONE), 89);
        }).says("The node 0 is the root, which is always there", () -> {
            AncestorLooks looks = new AncestorLooks();
            looks.prune(0);
            Due.is("after prune(0)", looks.node(0, 0), NONE);
            looks.addLeaf(0, ONE);
            looks.graft(0, 1);
            Due.is("after graft(0, 1)", looks.node(0, 0), NONE);
            Due.undoTimes(looks, 2);
            Due.is("after undo()", looks.node(0, 0), NONE);
            looks.keep();
            looks.restore();
            Due.is("after restore()", looks.node(0, 0), NONE);
        }).says("each other node has a parent and a length (0.0f to 1000.0f) to it.", () -> {
            AncestorLooks looks = new AncestorLooks();
            Due.is("the least length", looks.addLeaf(0, ZERO), 1);
            Due.is("the greatest length", looks.addLeaf(1, THOUSAND), 2);
            Due.is("above it", looks.addLeaf(1, THOUSAND + 1), BAD_VALUE);
            Due.is("below it", looks.addLeaf(1, Due.bits(-Float.MIN_VALUE)), BAD_VALUE);
            Due.is("a parent", looks.node(2, 0), 1);
            Due.real("a length", looks.real(2, 0), 1000.0f);
        }).says("A node that was removed is gone; its number is not given again", () -> {
            AncestorLooks looks = Due.grown("()()()");
            looks.prune(3);
            Due.is("after the highest one", looks.addLeaf(0, ONE), 4);
            looks.prune(1);
            Due.is("after the lowest one", looks.addLeaf(0, ONE), 5);
            Due.typeAll(looks, "()");
            looks.grow(0);
            Due.is("by a text neither", looks.node(6, 0), 0);
            Due.is("gone", looks.node(1, 0), UNKNOWN);
            Due.is("gone", looks.node(3, 0), UNKNOWN);
        }).says("(but by undo() and restore() all is as it was)", () -> {
            AncestorLooks looks = Due.grown("()()");
            looks.keep();
            looks.prune(2);
            looks.undo();
            Due.is("undo() brings it back", looks.node(2, 0), 0);
            looks.prune(2);
            looks.addLeaf(0, ONE);
            looks.restore();
            Due.is("restore() brings it back", looks.node(2, 0), 0);
            Due.is("the number that was undone is given again", looks.addLeaf(0, ONE), 3);
            looks.setLength(1, TWO);
            looks.undo();
            Due.is("undo() brings the bits back", looks.setLength(1, ONE), NONE);
            looks.setLength(1, TWO);
            looks.restore();
            Due.is("restore() brings the bits back", looks.setLength(1, ONE), NONE);
            looks.graft(1, 2);
            looks.undo();
            Due.is("undo() brings the parent back", looks.graft(1, 0), NONE);
            looks.graft(1, 2);
            looks.restore();
            Due.is("restore() brings the parent back", looks.graft(1, 0), NONE);
        });
    }

    private static void measuresOfNodes() {
        Sentence.in("Terms").says("A node without children is a leaf.", () -> {
            AncestorLooks looks = new AncestorLooks();
            Due.is("the root alone has no jump, but is one", looks.jump(0, 0), NONE);
            looks.addLeaf(0, ONE);
            Due.is("the root with a child is none", looks.jump(0, 0), NOT_POSSIBLE);
            looks.addLeaf(1, ONE);
            Due.is("one with a child is none", looks.prune(1), NOT_POSSIBLE);
            looks.graft(2, 0);
            Due.is("one whose child was grafted is one", looks.prune(1), 1);
        }).says("The depth of a node is the number of its ancestors (0 for the root).", () -> {
            AncestorLooks looks = Due.chain(89);
            Due.is("of the root", looks.node(0, 1), 0);
            Due.is("of its child", looks.node(1, 1), 1);
            Due.is("the greatest", looks.node(89, 1), 89);
        }).says("The height of a node is the greatest number of steps from it down to a leaf (0 for a leaf).", () -> {
            AncestorLooks looks = Due.chain(89);
            Due.is("of a leaf", looks.node(89, 2), 0);
            Due.is("of its parent", looks.node(88, 2), 1);
            Due.is("the greatest", looks.node(0, 2), 89);
            Due.is("of the root alone", new AncestorLooks().node(0, 2), 0);
            Due.is("not of the first or last child", Due.grown("()(())()").node(0, 2), 2);
        }).says("The branch of a node is the node with all nodes below it.", () -> {
            AncestorLooks looks = Due.chain(89);
            Due.is("of a leaf", looks.node(89, 4), 1);
            Due.is("of the root", looks.node(0, 4), 90);
            Due.is("without one that is gone", Trees.oneGone().node(0, 4), 3);
        }).says("The path length of a node is 0.0f for the root, otherwise that of its parent plus its length.", () -> {
            AncestorLooks looks = Trees.withLengths("(())", 0.1f, 0.2f);
            Due.real("of the root", looks.real(0, 1), 0.0f);
            Due.real("of its child", looks.real(1, 1), 0.1f);
            Due.real("below it", looks.real(2, 1), 0.1f + 0.2f);
        }).says("The children of a node have an order: by their numbers.", () -> {
            AncestorLooks looks = Due.grown("(())(())()");
            looks.graft(1, 5);
            looks.graft(3, 5);
            Due.is("the shape", looks.shape(5), 0b1_1100_1100_0);
            looks.prune(2);
            Due.is("not by their heights", looks.shape(5), 0b1_10_1100_0);
            looks.graft(1, 0);
            looks.graft(1, 5);
            Due.is("not by when they came there", looks.shape(5), 0b1_10_1100_0);
        });
    }

    private static void longWays() {
        Sentence.in("Terms")
                .says("The long child of a node that is no leaf is the child with the greatest height", () -> {
            Due.is("not the first child", Due.grown("()(())").node(0, 5), 2);
            Due.is("not the one with the most nodes", Due.grown("(()()())((()))").node(0, 5), 5);
            Due.is("not the one with the greatest length", Trees.withLengths("(())()", 1.0f, 1.0f, 9.0f).node(0, 5), 1);
            Due.is("a child that is a leaf", Due.chain(1).node(0, 5), 1);
            Due.is("none of a leaf", Due.chain(1).node(1, 5), NONE);
        }).says(", of several the first one.", () -> {
            Due.is("of leaves", Due.grown("()()()").node(0, 5), 1);
            Due.is("of higher ones", Due.grown("()(())(())").node(0, 5), 2);
            AncestorLooks looks = Due.grown("()()(())");
            looks.graft(1, 3);
            Due.is("by the number, not by when it came", looks.node(3, 5), 1);
        }).says("A long way goes from a node that is not the long child of its parent (or the root) to its long "
                + "child, and so on down to a leaf", () -> {
            AncestorLooks looks = Due.grown("()(()(()))");
            int[] tops = {0, 1, 0, 3, 0, 0};
            int[] leaves = {5, 1, 5, 3, 5, 5};
            for (int node = 0; node < tops.length; node++) {
                Due.is("the uppermost node above " + node, looks.node(node, 6), tops[node]);
                Due.is("the leaf below " + node, looks.node(node, 7), leaves[node]);
            }
            Due.is("of the root alone", new AncestorLooks().node(0, 8), 1);
            Due.is("of all nodes", Due.chain(89).node(45, 8), 90);
        }).says("; each node is on just one long way.", () -> {
            AncestorLooks looks = Due.grown("((()())())(()())()");
            int nodes = 0;
            for (int node = 0; node < looks.count(1); node++) {
                nodes += looks.node(node, 6) == node ? looks.node(node, 8) : 0;
            }
            Due.is("the nodes of all long ways", nodes, looks.count(0));
        });
    }

    private static void laddersAndJumps() {
        Sentence.in("Terms").says("The ladder of a long way of n nodes is the row of these, from the leaf up", () -> {
            AncestorLooks looks = Due.chain(3);
            for (int place = 0; place <= 3; place++) {
                Due.is("place " + place, looks.ladderAt(0, place), 3 - place);
            }
            Due.is("the root alone", new AncestorLooks().ladderAt(0, 0), 0);
        }).says(", and above them up to n more ancestors", () -> {
            AncestorLooks looks = Trees.sidewards();
            Due.is("one and one more", looks.node(17, 9), 2);
            Due.is("the last one", looks.ladderAt(17, 1), 12);
            looks.addLeaf(17, ONE);
            looks.addLeaf(18, ONE);
            Due.is("three and three more", looks.node(17, 9), 6);
            Due.is("the last one", looks.ladderAt(17, 5), 10);
            Due.is("no more", looks.ladderAt(17, 6), NONE);
        }).says(", as far as there are any.", () -> {
            Due.is("the root has none", Due.chain(5).node(5, 9), 6);
            AncestorLooks looks = Due.grown("((()))((()))");
            Due.is("three, and one that there is", looks.node(4, 9), 4);
            Due.is("behind the root", looks.ladderAt(4, 4), NONE);
            AncestorLooks just = Due.grown("((())(()))");
            Due.is("two, and just two that there are", just.node(4, 9), 4);
        }).says("The jumps of a leaf lead to its ancestors by 1, 2, 4, 8, ... steps", () -> {
            AncestorLooks looks = Due.chain(89);
            for (int power = 0; power <= 6; power++) {
                Due.is("power " + power, looks.jump(89, power), 89 - (1 << power));
            }
        }).says("The jumps of a leaf lead to its ancestors by 1, 2, 4, 8, ... steps, as far as there are any.", () -> {
            AncestorLooks looks = Due.chain(8);
            Due.is("just to the root", looks.jump(8, 3), 0);
            Due.is("no further", looks.jump(8, 4), NONE);
            looks.prune(8);
            Due.is("one too few", looks.jump(7, 3), NONE);
            Due.is("and the last one", looks.jump(7, 2), 3);
        });
    }

    private static void looks() {
        Sentence.in("Terms")
                .says("The ancestor by k steps of a node is looked for as follows; each of these counts as a look:", () -> {
            AncestorLooks looks = Trees.sidewards();
            Due.is("none", looks.looks(17, 0), 0);
            Due.is("a ladder", looks.looks(17, 1), 1);
            Due.is("a leaf and a jump", looks.looks(17, 2), 2);
            Due.is("a leaf, a jump and a ladder", looks.looks(17, 3), 3);
        }).says("If k is 0, there is no look.", () -> {
            AncestorLooks looks = Trees.sidewards();
            for (int node = 0; node <= 17; node++) {
                Due.is("of " + node, looks.looks(node, 0), 0);
            }
        }).says("If it is on the ladder of the long way of the node, it is told by one look at the ladder.", () -> {
            AncestorLooks looks = Trees.sidewards();
            looks.addLeaf(17, ONE);
            Due.is("the last one of the leaf", looks.looks(18, 3), 1);
            Due.is("behind it", looks.looks(18, 4), 2);
            Due.is("the last one of the node above", looks.looks(17, 2), 1);
            Due.is("behind it", looks.looks(17, 3), 2);
            Due.is("the root on the root's ladder", looks.looks(16, 16), 1);
        }).says("Otherwise one looks for the leaf of the long way of the node (one look)", () -> {
            AncestorLooks looks = Trees.sidewards();
            looks.addLeaf(17, ONE);
            Due.is("steps are counted from the leaf", looks.looks(17, 7), 2);
            Due.is("not from the node", looks.looks(17, 8), 3);
            Due.is("not from the node", looks.looks(17, 4), 3);
        }).says("then at the jump of this leaf by the greatest power of two that is not greater than the steps from "
                + "the leaf to the ancestor", () -> {
            AncestorLooks looks = Due.chain(70);
            looks.addLeaf(66, ONE);
            for (int steps = 2; steps <= 67; steps++) {
                Due.is("by " + steps, looks.looks(71, steps), Integer.bitCount(steps) == 1 ? 2 : 3);
            }
        }).says("; then, if it is not found by that, at the ladder of the long way of the node to which the jump "
                + "leads (on which it always is).", () -> {
            AncestorLooks looks = Trees.sidewards();
            for (int steps : new int[] {3, 5, 6, 7, 9, 10, 11, 12, 13}) {
                Due.is("by " + steps, looks.looks(17, steps), 3);
            }
        });
    }

    private static void distancesAndShapes() {
        Sentence.in("Terms")
                .says("The meeting place of two nodes is the deepest node that is an ancestor of both", () -> {
            AncestorLooks looks = Due.grown("(()(()))()");
            Due.is("of brothers", looks.meeting(2, 3), 1);
            Due.is("not the root above it", looks.meeting(2, 4), 1);
            Due.is("the root", looks.meeting(2, 5), 0);
        }).says(", or one of both.", () -> {
            AncestorLooks looks = Due.grown("(()(()))()");
            Due.is("the first one", looks.meeting(1, 4), 1);
            Due.is("the second one", looks.meeting(4, 3), 3);
            Due.is("the root", looks.meeting(0, 5), 0);
            Due.is("both", looks.meeting(4, 4), 4);
            Due.is("both the root", looks.meeting(0, 0), 0);
        }).says("Their distance is (p - m) + (q - m), where p and q are their path lengths and m is that of their "
                + "meeting place.", () -> {
            float p = 1000.0f + 0.1f;
            float q = 1000.0f + 0.3f;
            AncestorLooks looks = Trees.withLengths("(()())", 1000.0f, 0.1f, 0.3f);
            Due.real("rounded as it is written", looks.distance(2, 3), (p - 1000.0f) + (q - 1000.0f));
            Due.real("to itself", looks.distance(2, 2), 0.0f);
            Due.real("to the root", looks.distance(2, 0), p);
            Due.holds("not a sum of lengths", (p - 1000.0f) + (q - 1000.0f) != 0.1f + 0.3f);
        }).says("The shape of a branch with at most 15 nodes is a number", () -> {
            AncestorLooks looks = Due.chain(15);
            Due.is("of 15", looks.shape(1), (1 << 30) - (1 << 15));
            Due.is("of 16", looks.shape(0), NONE);
            AncestorLooks wide = Due.grown("()".repeat(14));
            Due.is("of 15 beside each other", wide.shape(0), 0b1_10101010101010_10101010101010_0);
            wide.addLeaf(0, ONE);
            Due.is("of 16 beside each other", wide.shape(0), NONE);
        }).says(": it is written with the digits 1 and 0 in base 2, a 1 when the branch of a node is begun, then the "
                + "shapes of its children in their order, then a 0.", () -> {
            AncestorLooks looks = Due.grown("(()(()))((())())");
            Due.is("a leaf first", looks.shape(1), 0b1_10_1100_0);
            Due.is("a leaf last", looks.shape(5), 0b1_1100_10_0);
        }).says("(So that of a leaf is 2.)", () -> {
            Due.is("the root alone", new AncestorLooks().shape(0), 2);
            Due.is("another one", Due.chain(89).shape(89), 2);
        });
    }

    private static void texts() {
        Sentence.in("Terms").says("There is a text of at most 60 characters", () -> {
            AncestorLooks looks = new AncestorLooks();
            Due.typeAll(looks, "()".repeat(30));
            Due.is("the 61st", looks.type('('), FULL);
            Due.is("is not in the text", looks.grow(0), 30);
        }).says(", empty at first.", () -> {
            AncestorLooks looks = new AncestorLooks();
            Due.is("its length", looks.count(9), 0);
            Due.is("its fault", looks.grow(0), -100);
            Due.is("what is typed is the first character", looks.type('('), 1);
        }).says("A text of branches is one or more branches", () -> {
            fault("", 0);
            grows("()", 1);
            grows("()()", 2);
            grows("()(())()", 4);
        }).says("; a branch is \"(\", any number of branches, and \")\".", () -> {
            grows("()", 1);
            grows("(())", 2);
            grows("(()()())", 4);
            grows("(".repeat(30) + ")".repeat(30), 30);
            fault("[]", 0);
            fault("(.)", 1);
            fault("((]", 2);
        });
    }

    private static void fault(String text, int fault) {
        AncestorLooks looks = new AncestorLooks();
        Due.typeAll(looks, text);
        Due.is("grow(0) of " + text, looks.grow(0), -100 - fault);
        Due.is("nodes of " + text, looks.count(1), 1);
    }

    private static void grows(String text, int nodes) {
        AncestorLooks looks = new AncestorLooks();
        Due.typeAll(looks, text);
        Due.is("grow(0) of " + text, looks.grow(0), nodes);
    }

    private static void faults() {
        Sentence.in("Terms")
                .says("The fault of the text is the index, from 0, of the first character that is not allowed at its place", () -> {
            fault(")", 0);
            fault("x", 0);
            fault(")(", 0);
            fault("(x", 1);
            fault("( )", 1);
            fault("())", 2);
            fault("()x", 2);
            fault("()())x", 4);
            fault("(" + (char) ('(' + 256) + ")", 1);
            fault("()" + (char) 0, 2);
            fault("()".repeat(29) + "(x", 59);
            fault("()".repeat(29) + "))", 58);
        }).says(", or the length of the text if it ends too early", () -> {
            fault("(", 1);
            fault("(()", 3);
            fault("()(", 3);
            fault("(()())(()", 9);
            fault("(".repeat(31) + ")".repeat(29), 60);
            fault("(".repeat(60), 60);
        }).says("(the empty text does).", () -> {
            fault("", 0);
            AncestorLooks looks = new AncestorLooks();
            Due.typeAll(looks, "()");
            looks.clearText();
            Due.is("when it was emptied", looks.grow(0), -100);
        });
    }

    private static void history() {
        Sentence.in("Terms").says("A history of at most 4 states is kept", () -> {
            Due.is("after three acts", Due.chain(3).count(8), 3);
            Due.is("after four acts", Due.chain(4).count(8), 4);
            Due.is("after five acts", Due.chain(5).count(8), 4);
            Due.is("after 89 acts", Due.chain(89).count(8), 4);
        }).says("; when one more is recorded, the oldest one is dropped", () -> {
            AncestorLooks looks = Due.chain(5);
            Due.undoTimes(looks, 4);
            Due.is("the second one is the last", looks.count(0), 2);
            Due.is("the first one was dropped", looks.undo(), NONE);
            AncestorLooks longer = Due.chain(30);
            for (int nodes = 30; nodes > 26; nodes--) {
                longer.undo();
                Due.is("the latest four stay", longer.count(0), nodes);
            }
        }).says("; undo() removes and restores the latest one.", () -> {
            AncestorLooks looks = Due.chain(3);
            looks.undo();
            Due.is("undone", looks.count(0), 3);
            Due.is("removed", looks.count(8), 2);
            looks.addLeaf(0, ONE);
            looks.undo();
            looks.undo();
            Due.is("a new act stands in its place", looks.count(0), 2);
            Due.is("removed", looks.count(8), 1);
        }).says("Each call of a method that is described as an act, and returns no error and not NONE, records the "
                + "state that was before it.",
                TermsSentences::recordedActs)
        .says("There is one snapshot, empty at first.", () -> {
            AncestorLooks looks = new AncestorLooks();
            Due.is("empty", looks.restore(), NONE);
            looks.keep();
            looks.addLeaf(0, ONE);
            looks.keep();
            looks.undo();
            Due.is("only the second one", looks.restore(), 2);
            Due.is("only the second one", looks.restore(), 2);
        }).says("A state is everything but the text, the history and the snapshot.", () -> {
            AncestorLooks looks = Due.chain(1);
            Due.typeAll(looks, "()");
            looks.keep();
            looks.addLeaf(0, ONE);
            looks.type('x');
            looks.undo();
            Due.is("undo() leaves the text", looks.count(9), 3);
            looks.clearText();
            Due.is("restore()", looks.restore(), 2);
            Due.is("leaves the text", looks.count(9), 0);
            Due.is("and the history, but for its own act", looks.count(8), 2);
            looks.addLeaf(0, ONE);
            looks.keep();
            looks.undo();
            Due.is("undo() leaves the snapshot", looks.restore(), 3);
            looks.undo();
            Due.is("the history is not in the snapshot", looks.count(8), 2);
        });
    }

    private static void recordedActs() {
        AncestorLooks looks = new AncestorLooks();
        Due.typeAll(looks, "(())");
        looks.keep();
        Due.is("type() and keep() are no acts", looks.count(8), 0);
        looks.addLeaf(0, ONE);
        Due.is("addLeaf()", looks.count(8), 1);
        looks.grow(1);
        Due.is("grow()", looks.count(8), 2);
        looks.setLength(2, TWO);
        Due.is("setLength()", looks.count(8), 3);
        looks.setLength(2, TWO);
        Due.is("setLength() that is so", looks.count(8), 3);
        looks.graft(3, 0);
        Due.is("graft()", looks.count(8), 4);
        looks.undo();
        Due.is("undo() is no act", looks.count(8), 3);
        looks.graft(3, 2);
        Due.is("graft() to where it is", looks.count(8), 3);
        looks.prune(3);
        Due.is("prune()", looks.count(8), 4);
        Due.undoTimes(looks, 2);
        looks.restore();
        Due.is("restore()", looks.count(8), 3);
        looks.undo();
        Due.is("the state before restore()", looks.count(0), 4);
        Due.real("the state before setLength()", looks.real(2, 0), 1.0f);
        looks.undo();
        Due.is("the state before grow()", looks.count(0), 2);
        looks.undo();
        Due.is("the state before addLeaf()", looks.count(0), 1);
        looks.clearText();
        Due.is("clearText() is no act", looks.count(8), 0);
    }

    private static void constants() {
        Sentence.in("Terms").says("Errors are reported by the constants below.", () -> {
            Due.is("UNKNOWN", AncestorLooks.UNKNOWN, -1);
            Due.is("BAD_VALUE", AncestorLooks.BAD_VALUE, -2);
            Due.is("FULL", AncestorLooks.FULL, -3);
            Due.is("NOT_POSSIBLE", AncestorLooks.NOT_POSSIBLE, -4);
            Due.is("NONE", AncestorLooks.NONE, -5);
        }).says("The constants: `UNKNOWN = -1`: There is no such node.",
                () -> Due.is("addLeaf(1)", new AncestorLooks().addLeaf(1, ONE), AncestorLooks.UNKNOWN))
        .says("`BAD_VALUE = -2`: Another argument is out of range.",
                () -> Due.is("addLeaf(0, -1)", new AncestorLooks().addLeaf(0, -1), AncestorLooks.BAD_VALUE))
        .says("`FULL = -3`: There is no more room.",
                () -> Due.is("addLeaf(0)", Trees.full().addLeaf(0, ONE), AncestorLooks.FULL))
        .says("`NOT_POSSIBLE = -4`: This is not possible.",
                () -> Due.is("prune(0)", new AncestorLooks().prune(0), AncestorLooks.NOT_POSSIBLE))
        .says("`NONE = -5`: There is no such thing; not an error.",
                () -> Due.is("node(0, 0)", new AncestorLooks().node(0, 0), AncestorLooks.NONE))
        .promisesNothing("Ahead of the calls `addLeaf`, `prune`, `graft`, `setLength` the interface says: ---- growth.")
        .promisesNothing("Ahead of the calls `type`, `clearText`, `grow` the interface says: ---- texts.")
        .promisesNothing("Ahead of the calls `undo`, `keep`, `restore` the interface says: ---- history.")
        .promisesNothing("Ahead of the calls `ancestor`, `looks`, `jump`, `ladderAt`, `node` the interface says: "
                + "---- ancestors.")
        .promisesNothing("Ahead of the calls `meeting`, `wayAt`, `real`, `distance`, `reach`, `farthest`, `apart` "
                + "the interface says: ---- ways and distances.")
        .promisesNothing("Ahead of the calls `shape`, `alike`, `tableAt`, `count` the interface says: ---- shapes.");
    }

    private static void errors() {
        Sentence.in("Terms")
                .says("Where several errors can apply, the order of the @return line is the order of the checks.",
                TermsSentences::orderOfChecks)
        .says("NONE is no error; it is returned only if no error applies.", () -> {
            AncestorLooks looks = Due.chain(1);
            Due.is("the root has its length already", looks.setLength(0, ZERO), NOT_POSSIBLE);
            Due.is("there is no such jump, of no leaf", looks.jump(0, 0), NOT_POSSIBLE);
            Due.is("there is no such jump, of no power", looks.jump(1, 7), BAD_VALUE);
            Due.is("not so many steps, of no node", looks.ancestor(2, 1), UNKNOWN);
            Due.is("16 nodes, and no node", Due.chain(15).shape(16), UNKNOWN);
            Due.is("no parent, and no node", looks.node(-1, 0), UNKNOWN);
        }).says("Methods that return a float return a NaN (0.0f / 0.0f) in place of all of these.", () -> {
            AncestorLooks looks = Due.chain(1);
            Due.real("real() of no node", looks.real(2, 0), Float.NaN);
            Due.real("real() out of range", looks.real(1, 2), Float.NaN);
            Due.real("distance() of no node", looks.distance(2, 0), Float.NaN);
            Due.real("distance() to no node", looks.distance(0, 2), Float.NaN);
        }).says("A node that is gone is no node.", () -> {
            AncestorLooks looks = Trees.oneGone();
            int[] answers = {looks.addLeaf(2, ONE), looks.prune(2), looks.graft(2, 0), looks.graft(1, 2),
                looks.setLength(2, TWO), looks.grow(2), looks.ancestor(2, 0), looks.looks(2, 0), looks.jump(2, 0),
                looks.ladderAt(2, 0), looks.node(2, 1), looks.meeting(2, 0), looks.meeting(0, 2),
                looks.wayAt(2, 0, 0), looks.wayAt(0, 2, 0), looks.reach(2, ONE), looks.farthest(2),
                looks.shape(2), looks.alike(2)};
            for (int at = 0; at < answers.length; at++) {
                Due.is("the call with the index " + at, answers[at], UNKNOWN);
            }
            Due.real("its length", looks.real(2, 0), Float.NaN);
            Due.real("the distance from it", looks.distance(2, 0), Float.NaN);
            Due.real("the distance to it", looks.distance(0, 2), Float.NaN);
        });
    }

    private static void orderOfChecks() {
        AncestorLooks full = Trees.full();
        Due.is("addLeaf: UNKNOWN, BAD_VALUE, FULL", full.addLeaf(90, -1), UNKNOWN);
        Due.is("addLeaf: UNKNOWN, FULL", full.addLeaf(90, ONE), UNKNOWN);
        Due.is("addLeaf: BAD_VALUE, FULL", full.addLeaf(0, -1), BAD_VALUE);
        Due.is("graft: UNKNOWN (parent), NOT_POSSIBLE", full.graft(0, 90), UNKNOWN);
        Due.is("graft: UNKNOWN (node), NONE", full.graft(90, 0), UNKNOWN);
        Due.is("setLength: UNKNOWN, BAD_VALUE", full.setLength(90, -1), UNKNOWN);
        Due.is("setLength: BAD_VALUE, NOT_POSSIBLE", full.setLength(0, -1), BAD_VALUE);
        Due.is("setLength: NOT_POSSIBLE, NONE", full.setLength(0, ZERO), NOT_POSSIBLE);
        Due.is("grow: UNKNOWN, FULL", full.grow(90), UNKNOWN);
        full.type('(');
        Due.is("grow: UNKNOWN, a fault, FULL", full.grow(90), UNKNOWN);
        Due.is("grow: a fault, FULL", full.grow(0), -159);
        Due.is("ancestor: UNKNOWN, BAD_VALUE", full.ancestor(90, -1), UNKNOWN);
        Due.is("looks: UNKNOWN, BAD_VALUE", full.looks(90, -1), UNKNOWN);
        Due.is("jump: UNKNOWN, BAD_VALUE", full.jump(90, 7), UNKNOWN);
        Due.is("jump: BAD_VALUE, NOT_POSSIBLE", full.jump(0, 7), BAD_VALUE);
        Due.is("jump: NOT_POSSIBLE, NONE", full.jump(0, 6), NOT_POSSIBLE);
        Due.is("ladderAt: UNKNOWN, BAD_VALUE", full.ladderAt(90, -1), UNKNOWN);
        Due.is("node: UNKNOWN, BAD_VALUE", full.node(90, 10), UNKNOWN);
        Due.is("wayAt: UNKNOWN (from), BAD_VALUE", full.wayAt(90, 0, -1), UNKNOWN);
        Due.is("wayAt: UNKNOWN (to), BAD_VALUE", full.wayAt(0, 90, -1), UNKNOWN);
        Due.is("reach: UNKNOWN, BAD_VALUE", full.reach(90, -1), UNKNOWN);
    }

    private static AncestorLooks rich() {
        return Unchanged.rich("(())");
    }

    private static void refusedGrowth() {
        Sentence.in("Terms").says("A call that returns an error or NONE changes nothing.", () -> {
            Unchanged.of(TermsSentences::rich)
                    .by("addLeaf: UNKNOWN", UNKNOWN, looks -> looks.addLeaf(6, ONE))
                    .by("addLeaf: BAD_VALUE", BAD_VALUE, looks -> looks.addLeaf(0, MINUS_ZERO))
                    .by("prune: UNKNOWN", UNKNOWN, looks -> looks.prune(6))
                    .by("prune: NOT_POSSIBLE, the root", NOT_POSSIBLE, looks -> looks.prune(0))
                    .by("prune: NOT_POSSIBLE, no leaf", NOT_POSSIBLE, looks -> looks.prune(3))
                    .by("graft: UNKNOWN, the node", UNKNOWN, looks -> looks.graft(6, 0))
                    .by("graft: UNKNOWN, the parent", UNKNOWN, looks -> looks.graft(1, 6))
                    .by("graft: NOT_POSSIBLE, the root", NOT_POSSIBLE, looks -> looks.graft(0, 1))
                    .by("graft: NOT_POSSIBLE, in its branch", NOT_POSSIBLE, looks -> looks.graft(1, 4))
                    .by("graft: NONE", NONE, looks -> looks.graft(5, 2))
                    .by("setLength: UNKNOWN", UNKNOWN, looks -> looks.setLength(6, TWO))
                    .by("setLength: BAD_VALUE", BAD_VALUE, looks -> looks.setLength(1, THOUSAND + 1))
                    .by("setLength: NOT_POSSIBLE", NOT_POSSIBLE, looks -> looks.setLength(0, TWO))
                    .by("setLength: NONE", NONE, looks -> looks.setLength(5, THOUSAND));
            Unchanged.of(Trees::full)
                    .by("addLeaf: FULL", FULL, looks -> looks.addLeaf(0, ONE))
                    .by("grow: FULL", FULL, looks -> looks.grow(0));
        });
    }

    private static void refusedTextsAndHistory() {
        Sentence.in("Terms").says("A call that returns an error or NONE changes nothing.", () -> {
            Unchanged.of(TermsSentences::rich)
                    .by("grow: UNKNOWN", UNKNOWN, looks -> looks.grow(6));
            Unchanged.of(() -> Unchanged.rich("(())("))
                    .by("grow: a text that ends too early", -105, looks -> looks.grow(0));
            Unchanged.of(() -> Unchanged.rich("(())x()"))
                    .by("grow: a character that is not allowed", -104, looks -> looks.grow(0));
            Unchanged.of(() -> Unchanged.rich(""))
                    .by("grow: the empty text", -100, looks -> looks.grow(0));
            Unchanged.of(() -> Unchanged.rich("()".repeat(30)))
                    .by("type: FULL", FULL, looks -> looks.type('x'));
            Unchanged.of(() -> {
                AncestorLooks looks = rich();
                Due.undoTimes(looks, 4);
                return looks;
            }).by("undo: NONE", NONE, looks -> looks.undo());
            Unchanged.of(() -> Due.grown("(())()")).by("restore: NONE", NONE, looks -> looks.restore());
        });
    }

    private static void refusedQuestions() {
        Sentence.in("Terms").says("A call that returns an error or NONE changes nothing.", () -> {
            Unchanged.of(TermsSentences::rich)
                    .by("ancestor: UNKNOWN", UNKNOWN, looks -> looks.ancestor(6, 0))
                    .by("ancestor: BAD_VALUE", BAD_VALUE, looks -> looks.ancestor(4, -1))
                    .by("ancestor: NONE", NONE, looks -> looks.ancestor(4, 4))
                    .by("looks: UNKNOWN", UNKNOWN, looks -> looks.looks(6, 0))
                    .by("looks: BAD_VALUE", BAD_VALUE, looks -> looks.looks(4, -1))
                    .by("looks: NONE", NONE, looks -> looks.looks(4, 4))
                    .by("jump: UNKNOWN", UNKNOWN, looks -> looks.jump(6, 0))
                    .by("jump: BAD_VALUE", BAD_VALUE, looks -> looks.jump(4, 7))
                    .by("jump: NOT_POSSIBLE", NOT_POSSIBLE, looks -> looks.jump(3, 0))
                    .by("jump: NONE", NONE, looks -> looks.jump(4, 2))
                    .by("ladderAt: UNKNOWN", UNKNOWN, looks -> looks.ladderAt(6, 0))
                    .by("ladderAt: BAD_VALUE", BAD_VALUE, looks -> looks.ladderAt(4, -1))
                    .by("ladderAt: NONE", NONE, looks -> looks.ladderAt(4, 4))
                    .by("node: UNKNOWN", UNKNOWN, looks -> looks.node(6, 0))
                    .by("node: BAD_VALUE", BAD_VALUE, looks -> looks.node(4, 10))
                    .by("node: NONE, no parent", NONE, looks -> looks.node(0, 0))
                    .by("node: NONE, no long child", NONE, looks -> looks.node(4, 5));
        });
    }

    private static void refusedWays() {
        Sentence.in("Terms").says("A call that returns an error or NONE changes nothing.", () -> {
            Unchanged.of(TermsSentences::rich)
                    .by("meeting: UNKNOWN", UNKNOWN, looks -> looks.meeting(0, 6))
                    .by("wayAt: UNKNOWN", UNKNOWN, looks -> looks.wayAt(6, 0, 0))
                    .by("wayAt: BAD_VALUE", BAD_VALUE, looks -> looks.wayAt(4, 5, -1))
                    .by("wayAt: NONE", NONE, looks -> looks.wayAt(4, 5, 6))
                    .by("real: a NaN, no node", Float.NaN, looks -> looks.real(6, 0))
                    .by("real: a NaN, out of range", Float.NaN, looks -> looks.real(4, 2))
                    .by("distance: a NaN", Float.NaN, looks -> looks.distance(4, 6))
                    .by("reach: UNKNOWN", UNKNOWN, looks -> looks.reach(6, ONE))
                    .by("reach: BAD_VALUE", BAD_VALUE, looks -> looks.reach(4, MINUS_ZERO))
                    .by("farthest: UNKNOWN", UNKNOWN, looks -> looks.farthest(6))
                    .by("apart: BAD_VALUE", BAD_VALUE, looks -> looks.apart(2))
                    .by("shape: UNKNOWN", UNKNOWN, looks -> looks.shape(6))
                    .by("alike: UNKNOWN", UNKNOWN, looks -> looks.alike(6))
                    .by("tableAt: BAD_VALUE", BAD_VALUE, looks -> looks.tableAt(-1))
                    .by("tableAt: NONE", NONE, looks -> looks.tableAt(90))
                    .by("count: BAD_VALUE", BAD_VALUE, looks -> looks.count(10));
            Unchanged.of(() -> Due.chain(15))
                    .by("shape: NONE", NONE, looks -> looks.shape(0))
                    .by("alike: NONE", NONE, looks -> looks.alike(0));
        });
    }
}
