/** Promises 24 to 27, sentence by sentence. */
final class ShapesSentences implements Answers {
    private ShapesSentences() {
    }

    static void all() {
        shape();
        alike();
        tableAt();
        countOfNodes();
        countOfTheRest();
    }

    private static void shape() {
        Sentence.in("Promise 24").says("`node`: a node", () -> {
            AncestorLooks looks = Trees.oneGone();
            Due.is("the lowest", looks.shape(0), 0b111000);
            Due.is("the highest", looks.shape(3), 0b10);
        }).says("the shape of its branch", () -> {
            AncestorLooks looks = Due.grown("(()(()))()");
            int[] due = {0b111011000100, 0b11011000, 0b10, 0b1100, 0b10, 0b10};
            for (int node = 0; node < due.length; node++) {
                Due.is("of " + node, looks.shape(node), due[node]);
            }
        }).says("UNKNOWN", () -> {
            AncestorLooks looks = Trees.oneGone();
            Trees.noNodes("shape", looks::shape);
        }).says("NONE if that has more than 15 nodes", () -> {
            AncestorLooks looks = Due.chain(15);
            Due.is("16", looks.shape(0), NONE);
            Due.is("15", looks.shape(1), (1 << 30) - (1 << 15));
            looks.prune(15);
            Due.is("15 when one is gone", looks.shape(0), (1 << 30) - (1 << 15));
            Due.is("16 beside each other", Due.grown("()".repeat(15)).shape(0), NONE);
            Due.is("the most", Due.chain(89).shape(0), NONE);
        });
    }

    private static void alike() {
        Sentence.in("Promise 25").says("`node`: a node", () -> {
            AncestorLooks looks = Trees.oneGone();
            Due.is("the lowest", looks.alike(0), 1);
            Due.is("the highest", looks.alike(3), 1);
        }).says("how many nodes have branches of the same shape (itself counted)", () -> {
            Due.is("itself alone", new AncestorLooks().alike(0), 1);
            AncestorLooks looks = Due.grown("(()(()))((())())(())");
            Due.is("leaves", looks.alike(2), 5);
            Due.is("of two nodes", looks.alike(9), 3);
            Due.is("the order of children counts", looks.alike(1), 1);
            Due.is("the order of children counts", looks.alike(5), 1);
            looks.prune(10);
            Due.is("one fewer when a leaf is gone", looks.alike(3), 2);
            Due.is("but one leaf more", looks.alike(9), 5);
            AncestorLooks chain = Due.chain(3);
            chain.prune(3);
            Due.is("not one that is gone", chain.alike(2), 1);
            chain.undo();
            chain.undo();
            Due.is("not one that was undone", chain.alike(2), 1);
        }).says("UNKNOWN", () -> {
            AncestorLooks looks = Trees.oneGone();
            Trees.noNodes("alike", looks::alike);
        }).says("NONE if its branch has more than 15 nodes", () -> {
            AncestorLooks looks = Due.grown("(".repeat(14) + ")".repeat(14) + "(".repeat(15) + ")".repeat(15));
            Due.is("30", looks.alike(0), NONE);
            Due.is("15", looks.alike(15), 1);
            looks.addLeaf(14, ONE);
            Due.is("15, and once more 15", looks.alike(1), 2);
            looks.addLeaf(30, ONE);
            Due.is("16", looks.alike(1), NONE);
            Due.is("15 below it", looks.alike(2), 2);
        });
    }

    private static void tableAt() {
        Sentence.in("Promise 26").says("Tells a shape of the table of all shapes that occur", () -> {
            AncestorLooks looks = Due.grown("()()(())");
            Due.is("each one once", looks.tableAt(0), 0b10);
            Due.is("each one once", looks.tableAt(1), 0b1100);
            Due.is("that of the root", looks.tableAt(2), 0b1101011000);
            looks.prune(4);
            Due.is("not one that occurs no more", looks.tableAt(1), 0b11010100);
            AncestorLooks large = Due.chain(20);
            Due.is("up to 15 nodes", large.tableAt(14), (1 << 30) - (1 << 15));
            Due.is("but no more", large.tableAt(15), NONE);
        }).says("in rising order.", () -> {
            AncestorLooks looks = Due.grown("(()(()))((())())");
            int[] due = {0b10, 0b1100, 0b11011000, 0b11100100, 0b111011000111001000};
            for (int place = 0; place < due.length; place++) {
                Due.is("place " + place, looks.tableAt(place), due[place]);
            }
            looks.graft(2, 0);
            looks.graft(3, 2);
            Due.is("not in that of the nodes", looks.tableAt(1), 0b1100);
            Due.is("not in that of the nodes", looks.tableAt(2), 0b111000);
        }).says("`place`: a place in the table, from 0", () -> {
            AncestorLooks looks = new AncestorLooks();
            Due.is("the first one", looks.tableAt(0), 2);
            Due.is("and once more", looks.tableAt(0), 2);
            AncestorLooks most = Due.chain(14);
            Due.is("the last one", most.tableAt(14), (1 << 30) - (1 << 15));
        }).says("the shape", () -> {
            AncestorLooks looks = Due.chain(14);
            for (int place = 0; place <= 14; place++) {
                Due.is("place " + place, looks.tableAt(place), looks.shape(14 - place));
            }
        }).says("BAD_VALUE if place is negative", () -> {
            for (int place : new int[] {-1, -2, MIN}) {
                Due.is("place " + place, Due.chain(2).tableAt(place), BAD_VALUE);
            }
        }).says("NONE if there are not so many", () -> {
            Due.is("of one", new AncestorLooks().tableAt(1), NONE);
            AncestorLooks looks = Due.chain(3);
            Due.is("the last one of four", looks.tableAt(3), 0b11110000);
            Due.is("behind the last one", looks.tableAt(4), NONE);
            Due.is("90", looks.tableAt(90), NONE);
            Due.is("the most", looks.tableAt(MAX), NONE);
        });
    }

    private static void countOfNodes() {
        Sentence.in("Promise 27").says("0 for the nodes that are there", () -> {
            Due.is("the root alone", new AncestorLooks().count(0), 1);
            Due.is("not one that is gone", Trees.oneGone().count(0), 3);
            Due.is("the most", Due.chain(89).count(0), 90);
        }).says("1 for those that there have been", () -> {
            Due.is("the root alone", new AncestorLooks().count(1), 1);
            AncestorLooks looks = Trees.oneGone();
            Due.is("also one that is gone", looks.count(1), 4);
            looks.undo();
            looks.undo();
            Due.is("not one that was undone", looks.count(1), 3);
            Due.is("the most", Trees.full().count(1), 90);
        }).says("2 for leaves", () -> {
            Due.is("the root alone", new AncestorLooks().count(2), 1);
            Due.is("one", Due.chain(89).count(2), 1);
            AncestorLooks looks = Due.grown("((()())())()");
            Due.is("many", looks.count(2), 4);
            looks.prune(6);
            Due.is("not one that is gone", looks.count(2), 3);
        }).says("3 for long ways", () -> {
            Due.is("the root alone", new AncestorLooks().count(3), 1);
            Due.is("one", Due.chain(89).count(3), 1);
            Due.is("many", Due.grown("((()())())()").count(3), 4);
            Due.is("the most", Trees.full().count(3), 87);
            Due.is("none of those that are gone", Trees.oneGone().count(3), 1);
        }).says("4 for the nodes of all ladders together (a node counted for each ladder on which it is)", () -> {
            Due.is("the root alone", new AncestorLooks().count(4), 1);
            Due.is("none above the root", Due.chain(89).count(4), 90);
            Due.is("the root on each one", Due.grown("()".repeat(30)).count(4), 60);
            Due.is("ladders of 4, 4 and 2", Due.grown("((()))((()))()").count(4), 10);
            Due.is("none of those that are gone", Trees.oneGone().count(4), 3);
        }).says("5 for the jumps of all leaves together", () -> {
            Due.is("the root alone", new AncestorLooks().count(5), 0);
            Due.is("of one at the depth 89", Due.chain(89).count(5), 7);
            Due.is("of one at the depth 64", Due.chain(64).count(5), 7);
            Due.is("of one at the depth 63", Due.chain(63).count(5), 6);
            Due.is("by one step only", Due.grown("()".repeat(30)).count(5), 30);
            Due.is("2, 2 and 1", Due.grown("((()))((()))()").count(5), 5);
            Due.is("none of those that are gone", Trees.oneGone().count(5), 2);
        }).says("6 for the greatest depth", () -> {
            Due.is("the root alone", new AncestorLooks().count(6), 0);
            Due.is("the most", Due.chain(89).count(6), 89);
            AncestorLooks looks = Due.grown("(())(()())");
            Due.is("of several", looks.count(6), 2);
            looks.graft(1, 5);
            Due.is("after a graft", looks.count(6), 4);
            Due.is("not of one that is gone", Trees.oneGone().count(6), 2);
        });
    }

    private static void countOfTheRest() {
        Sentence.in("Promise 27").says("7 for the shapes in the table", () -> {
            Due.is("the root alone", new AncestorLooks().count(7), 1);
            Due.is("each one once", Due.grown("()()(())").count(7), 3);
            Due.is("none of more than 15 nodes", Due.chain(89).count(7), 15);
            Due.is("none of those that are gone", Trees.oneGone().count(7), 3);
        }).says("8 for the states in the history", () -> {
            AncestorLooks looks = new AncestorLooks();
            Due.is("none at first", looks.count(8), 0);
            for (int acts = 1; acts <= 6; acts++) {
                looks.addLeaf(0, ONE);
                Due.is("after acts: " + acts, looks.count(8), Math.min(acts, 4));
            }
            looks.undo();
            Due.is("after undo()", looks.count(8), 3);
        }).says("9 for the length of the text", () -> {
            AncestorLooks looks = new AncestorLooks();
            Due.is("empty at first", looks.count(9), 0);
            looks.type('x');
            Due.is("one", looks.count(9), 1);
            Due.typeAll(looks, "y".repeat(60));
            Due.is("the most", looks.count(9), 60);
        }).says("the number", () -> {
            AncestorLooks looks = Due.grown("((()))((()))()");
            int[] due = {8, 8, 3, 3, 10, 5, 3, 4, 1, 0};
            for (int what = 0; what < due.length; what++) {
                Due.is("what " + what, looks.count(what), due[what]);
            }
        }).says("BAD_VALUE", () -> {
            for (int what : new int[] {-1, MIN, 10, 11, 90, MAX}) {
                Due.is("what " + what, Due.chain(2).count(what), BAD_VALUE);
            }
        });
    }
}
