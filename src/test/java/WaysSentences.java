/** Promises 17 to 23, sentence by sentence. */
final class WaysSentences implements Answers {
    private WaysSentences() {
    }

    static void all() {
        meeting();
        wayAt();
        real();
        distance();
        reach();
        reachErrors();
        farthest();
        apart();
        apartOfSeveral();
    }

    private static void meeting() {
        Sentence.in("Promise 17").says("`node`: a node", () -> {
            AncestorLooks looks = Trees.oneGone();
            Due.is("the lowest", looks.meeting(0, 1), 0);
            Due.is("the highest", looks.meeting(3, 1), 1);
        }).says("`other`: a node", () -> {
            AncestorLooks looks = Trees.oneGone();
            Due.is("the lowest", looks.meeting(1, 0), 0);
            Due.is("the highest", looks.meeting(1, 3), 1);
        }).says("their meeting place", () -> {
            AncestorLooks looks = Due.grown("(()(()))()");
            Due.is("of different depths", looks.meeting(4, 2), 1);
            Due.is("of different depths", looks.meeting(2, 4), 1);
            Due.is("the root", looks.meeting(5, 4), 0);
            looks.graft(5, 4);
            Due.is("after a graft", looks.meeting(5, 2), 1);
            AncestorLooks chain = Due.chain(89);
            Due.is("of the lowest and the deepest", chain.meeting(0, 89), 0);
            Due.is("of the deepest two", chain.meeting(89, 88), 88);
        }).says("UNKNOWN", () -> {
            AncestorLooks looks = Trees.oneGone();
            Trees.noNodes("the meeting place with the root", node -> looks.meeting(node, 0));
            Trees.noNodes("the meeting place of the root", other -> looks.meeting(0, other));
            Trees.noNodes("the meeting place with itself", node -> looks.meeting(node, node));
        });
    }

    private static void wayAt() {
        Sentence.in("Promise 18").says("`from`: a node", () -> {
            AncestorLooks looks = Trees.oneGone();
            Due.is("the lowest", looks.wayAt(0, 1, 0), 0);
            Due.is("the highest", looks.wayAt(3, 1, 0), 3);
        }).says("`to`: a node", () -> {
            AncestorLooks looks = Trees.oneGone();
            Due.is("the lowest", looks.wayAt(1, 0, 1), 0);
            Due.is("the highest", looks.wayAt(1, 3, 1), 3);
        }).says("`place`: a place on the way from the one to the other, from 0 (the first one)", () -> {
            AncestorLooks looks = Due.grown("(()(()))()");
            Due.is("the first one upward", looks.wayAt(4, 0, 0), 4);
            Due.is("the first one downward", looks.wayAt(0, 4, 0), 0);
            Due.is("the first one across", looks.wayAt(5, 4, 0), 5);
            Due.is("the first one to itself", looks.wayAt(2, 2, 0), 2);
            Due.is("the last one across", looks.wayAt(5, 4, 4), 4);
        }).says("the node there", () -> {
            AncestorLooks looks = Due.grown("(()(()))()");
            int[] due = {4, 3, 1, 0, 5};
            for (int place = 0; place < due.length; place++) {
                Due.is("from 4 to 5 at " + place, looks.wayAt(4, 5, place), due[place]);
                Due.is("from 5 to 4 at " + place, looks.wayAt(5, 4, place), due[due.length - 1 - place]);
            }
            Due.is("no detour by the root", looks.wayAt(2, 3, 1), 1);
        }).says("UNKNOWN (from or to)", () -> {
            AncestorLooks looks = Trees.oneGone();
            Trees.noNodes("the way from", from -> looks.wayAt(from, 0, 0));
            Trees.noNodes("the way from it at -1", from -> looks.wayAt(from, 0, -1));
            Trees.noNodes("the way to", to -> looks.wayAt(0, to, 0));
            Trees.noNodes("the way to it at -1", to -> looks.wayAt(0, to, -1));
            Trees.noNodes("the way to itself", node -> looks.wayAt(node, node, MAX));
        }).says("BAD_VALUE if place is negative", () -> {
            AncestorLooks looks = Due.chain(3);
            for (int place : new int[] {-1, -2, MIN}) {
                Due.is("place " + place, looks.wayAt(3, 0, place), BAD_VALUE);
                Due.is("place " + place + " to itself", looks.wayAt(0, 0, place), BAD_VALUE);
            }
        }).says("NONE if the way has not so many", () -> {
            AncestorLooks looks = Due.grown("(()(()))()");
            Due.is("behind the end across", looks.wayAt(4, 5, 5), NONE);
            Due.is("behind the end upward", looks.wayAt(4, 1, 3), NONE);
            Due.is("behind the end downward", looks.wayAt(1, 4, 3), NONE);
            Due.is("behind itself", looks.wayAt(4, 4, 1), NONE);
            Due.is("behind the root", looks.wayAt(0, 0, 1), NONE);
            Due.is("the most", looks.wayAt(4, 5, MAX), NONE);
            AncestorLooks chain = Due.chain(89);
            Due.is("the end of the longest one", chain.wayAt(0, 89, 89), 89);
            Due.is("and behind it", chain.wayAt(0, 89, 90), NONE);
        });
    }

    private static void real() {
        Sentence.in("Promise 19").says("`node`: a node", () -> {
            AncestorLooks looks = Trees.oneGone();
            Due.real("the lowest", looks.real(0, 1), 0.0f);
            Due.real("the highest", looks.real(3, 1), 2.0f);
        }).says("0 for its length (0.0f for the root)", () -> {
            AncestorLooks looks = Trees.withLengths("(())", 0.5f, 2.0f);
            Due.real("of the root", looks.real(0, 0), 0.0f);
            Due.real("of another one", looks.real(1, 0), 0.5f);
            Due.real("of a leaf", looks.real(2, 0), 2.0f);
        }).says("1 for its path length", () -> {
            AncestorLooks looks = Trees.withLengths("(())", 0.5f, 2.0f);
            Due.real("of the root", looks.real(0, 1), 0.0f);
            Due.real("of another one", looks.real(1, 1), 0.5f);
            Due.real("of a leaf", looks.real(2, 1), 2.5f);
        }).says("the float", () -> {
            AncestorLooks looks = new AncestorLooks();
            for (int node = 1; node <= 89; node++) {
                looks.addLeaf(node - 1, THOUSAND);
            }
            Due.real("the greatest length", looks.real(89, 0), 1000.0f);
            Due.real("the greatest path length", looks.real(89, 1), 89000.0f);
        }).says("a NaN if there is no such node", () -> {
            AncestorLooks looks = Trees.oneGone();
            Trees.noNodesOfReal("the length", node -> looks.real(node, 0));
            Trees.noNodesOfReal("the path length", node -> looks.real(node, 1));
        }).says("or what is out of range", () -> {
            AncestorLooks looks = Due.chain(1);
            for (int what : new int[] {-1, MIN, 2, 3, MAX}) {
                Due.real("what " + what, looks.real(1, what), Float.NaN);
                Due.real("what " + what + " of the root", looks.real(0, what), Float.NaN);
            }
        });
    }

    private static void distance() {
        Sentence.in("Promise 20").says("`node`: a node", () -> {
            AncestorLooks looks = Trees.oneGone();
            Due.real("the lowest", looks.distance(0, 1), 1.0f);
            Due.real("the highest", looks.distance(3, 0), 2.0f);
        }).says("`other`: a node", () -> {
            AncestorLooks looks = Trees.oneGone();
            Due.real("the lowest", looks.distance(1, 0), 1.0f);
            Due.real("the highest", looks.distance(0, 3), 2.0f);
        }).says("their distance", () -> {
            AncestorLooks looks = Trees.withLengths("(()())()", 1.0f, 2.0f, 0.5f, 4.0f);
            Due.real("to itself", looks.distance(2, 2), 0.0f);
            Due.real("of the root to itself", looks.distance(0, 0), 0.0f);
            Due.real("upward", looks.distance(2, 1), 2.0f);
            Due.real("downward", looks.distance(0, 3), 1.5f);
            Due.real("not by the root", looks.distance(2, 3), 2.5f);
            Due.real("by the root", looks.distance(3, 4), 5.5f);
            AncestorLooks far = new AncestorLooks();
            for (int node = 1; node <= 89; node++) {
                far.addLeaf(node == 45 ? 0 : node - 1, THOUSAND);
            }
            Due.real("the greatest one", far.distance(44, 89), 89000.0f);
        }).says("a NaN if one of both is no node", () -> {
            AncestorLooks looks = Trees.oneGone();
            Trees.noNodesOfReal("the distance to the root", node -> looks.distance(node, 0));
            Trees.noNodesOfReal("the distance from the root", other -> looks.distance(0, other));
            Trees.noNodesOfReal("the distance to itself", node -> looks.distance(node, node));
        });
    }

    private static void reach() {
        Sentence.in("Promise 21").says("`node`: a node", () -> {
            AncestorLooks looks = Trees.oneGone();
            Due.is("the lowest", looks.reach(0, THOUSAND), 0);
            Due.is("the highest", looks.reach(3, ONE), 1);
        }).says("Tells the highest node that is within reach:", () -> {
            AncestorLooks looks = Trees.withLengths("((()))", 2.0f, 0.0f, 0.5f);
            Due.is("above a length of 0.0f", looks.reach(3, Due.bits(0.5f)), 1);
            Due.is("the root, though there is more reach", looks.reach(3, THOUSAND), 0);
            AncestorLooks flat = Trees.withLengths("((()))", 0.0f, 0.0f, 0.0f);
            Due.is("by lengths of 0.0f alone", flat.reach(3, ZERO), 0);
        }).says("the node itself", () -> {
            AncestorLooks looks = Trees.withLengths("(())", 1.0f, Float.MIN_VALUE);
            Due.is("with no reach", looks.reach(1, ZERO), 1);
            Due.is("with too little", looks.reach(1, Due.bits(Math.nextDown(1.0f))), 1);
            Due.is("the root", looks.reach(0, ZERO), 0);
        }).says("or an ancestor for which the path length of the node less its own is not greater than the reach",
                () -> {
            AncestorLooks looks = Due.chain(3);
            Due.is("just as great", looks.reach(3, ONE), 2);
            Due.is("greater by the least", looks.reach(3, TWO - 1), 2);
            Due.is("just as great", looks.reach(3, TWO), 1);
            Due.is("less by the least", looks.reach(3, TWO + 1), 1);
            AncestorLooks rounded = Trees.withLengths("(())", 1000.0f, 0.00001f);
            Due.is("path lengths are rounded", rounded.reach(2, ZERO), 1);
            AncestorLooks more = Trees.withLengths("(())", 1000.0f, 0.1f);
            float less = (1000.0f + 0.1f) - 1000.0f;
            Due.holds("rounding is seen", less < 0.1f);
            Due.is("the difference is rounded", more.reach(2, Due.bits(less)), 1);
            Due.is("and less than that", more.reach(2, Due.bits(Math.nextDown(less))), 2);
        }).says(", and so for all between.", () -> {
            AncestorLooks looks = Trees.withLengths("((()))", 0.0f, 4.0f, 1.0f);
            Due.is("the root is not reached without 2", looks.reach(3, Due.bits(4.5f)), 2);
            Due.is("all are", looks.reach(3, Due.bits(5.0f)), 0);
        });
    }

    private static void reachErrors() {
        Sentence.in("Promise 21").says("`bits`: the bits of the reach (in the range of lengths)", () -> {
            AncestorLooks looks = Due.grown("(())");
            looks.setLength(1, THOUSAND);
            looks.setLength(2, ZERO);
            Due.is("the least", looks.reach(2, ZERO), 1);
            Due.is("above that", looks.reach(2, Due.bits(Float.MIN_VALUE)), 1);
            Due.is("below the greatest", looks.reach(2, THOUSAND - 1), 1);
            Due.is("the greatest", looks.reach(2, THOUSAND), 0);
        }).says("the node", () -> {
            AncestorLooks looks = Due.chain(89);
            for (int steps = 0; steps <= 89; steps++) {
                Due.is("within " + steps, looks.reach(89, Due.bits(steps)), 89 - steps);
            }
        }).says("UNKNOWN", () -> {
            AncestorLooks looks = Trees.oneGone();
            Trees.noNodes("reach", node -> looks.reach(node, ONE));
            Trees.noNodes("reach of no length", node -> looks.reach(node, -1));
        }).says("BAD_VALUE", () -> {
            AncestorLooks looks = Due.chain(2);
            for (int bits : NO_LENGTHS) {
                Due.is("bits " + bits, looks.reach(2, bits), BAD_VALUE);
                Due.is("bits " + bits + " of the root", looks.reach(0, bits), BAD_VALUE);
            }
        });
    }

    private static void farthest() {
        Sentence.in("Promise 22").says("`node`: a node", () -> {
            AncestorLooks looks = Trees.oneGone();
            Due.is("the lowest", looks.farthest(0), 3);
            Due.is("the highest", looks.farthest(3), 0);
        }).says("the node (perhaps itself) with the greatest distance from it", () -> {
            Due.is("the root alone is it itself", new AncestorLooks().farthest(0), 0);
            AncestorLooks looks = Trees.withLengths("(()())()", 1.0f, 2.0f, 1.5f, 2.5f);
            Due.is("below the root", looks.farthest(0), 2);
            Due.is("across the root", looks.farthest(3), 4);
            looks.prune(4);
            Due.is("not one that is gone, but its brother", looks.farthest(3), 2);
            Due.is("the root when it is farthest", Due.chain(5).farthest(5), 0);
            float step = Float.MIN_VALUE;
            AncestorLooks least = Trees.withLengths("()()()", step, 3.0f * step, 2.0f * step);
            Due.is("by the least difference", least.farthest(0), 2);
        }).says("of several the one with the lowest number", () -> {
            AncestorLooks star = Due.grown("()()()()");
            Due.is("of four", star.farthest(0), 1);
            Due.is("of three", star.farthest(1), 2);
            AncestorLooks flat = Trees.withLengths("()(())", 0.0f, 0.0f, 0.0f);
            for (int node = 0; node <= 3; node++) {
                Due.is("of all, as none is far from " + node, flat.farthest(node), 0);
            }
            AncestorLooks looks = Trees.withLengths("((()))()", 1.0f, 0.0f, 0.0f, 3.0f);
            Due.is("not the deepest", looks.farthest(4), 1);
            AncestorLooks rounded = Trees.withLengths("(())()", 1000.0f, 0.00001f, 1.0f);
            Due.is("as far when rounded", rounded.farthest(3), 1);
        }).says("UNKNOWN", () -> {
            AncestorLooks looks = Trees.oneGone();
            Trees.noNodes("farthest", looks::farthest);
        });
    }

    private static void isApart(String what, AncestorLooks looks, int first, int second) {
        Due.is(what + ": the first one", looks.apart(0), first);
        Due.is(what + ": the second one", looks.apart(1), second);
    }

    private static void apart() {
        Sentence.in("Promise 23").says("Tells the two nodes that are the farthest apart.", () -> {
            AncestorLooks looks = Trees.withLengths("(()())()", 1.0f, 2.0f, 2.5f, 0.5f);
            isApart("not by the root", looks, 2, 3);
            looks.setLength(4, THOUSAND);
            isApart("by the root", looks, 3, 4);
            looks.prune(4);
            isApart("not one that is gone", looks, 2, 3);
        }).says("0 for the first one, 1 for the second one: the pair a, b with a not greater than b, the greatest "
                + "distance", () -> {
            isApart("the root alone, twice", new AncestorLooks(), 0, 0);
            isApart("a root and a node", Due.chain(1), 0, 1);
            AncestorLooks looks = Trees.withLengths("()(())", 5.0f, 1.0f, 1.0f);
            isApart("the lower one is less deep", looks, 1, 3);
            looks.graft(1, 2);
            looks.graft(3, 0);
            isApart("the lower one is deeper", looks, 1, 3);
        }).says("the node", () -> {
            isApart("the most nodes below each other", Due.chain(89), 0, 89);
            AncestorLooks star = new AncestorLooks();
            for (int node = 1; node <= 89; node++) {
                star.addLeaf(0, Due.bits(node));
            }
            isApart("the most nodes beside each other", star, 88, 89);
        }).says("BAD_VALUE", () -> {
            for (int which : new int[] {-1, MIN, 2, 3, MAX}) {
                Due.is("which " + which, Due.chain(2).apart(which), BAD_VALUE);
                Due.is("which " + which + " of the root alone", new AncestorLooks().apart(which), BAD_VALUE);
            }
        });
    }

    private static void apartOfSeveral() {
        Sentence.in("Promise 23").says("and of several the lowest a", () -> {
            isApart("1, 3 and 2, 3", Trees.withLengths("()()()", 1.0f, 1.0f, 2.0f), 1, 3);
            isApart("0, 2 and 1, 2", Trees.withLengths("()()", 0.0f, 1.0f), 0, 2);
            isApart("none is apart", Trees.withLengths("()(())", 0.0f, 0.0f, 0.0f), 0, 0);
            AncestorLooks looks = Due.grown("()()");
            isApart("of three", looks, 1, 2);
            looks.setLength(1, ZERO);
            looks.setLength(2, ZERO);
            isApart("none is apart any more", looks, 0, 0);
        }).says("then the lowest b", () -> {
            isApart("1, 2 and 1, 3", Trees.withLengths("()()()", 2.0f, 1.0f, 1.0f), 1, 2);
            isApart("0, 1 and 0, 2", Trees.withLengths("(())", 1.0f, 0.0f), 0, 1);
            isApart("as far when rounded", Trees.withLengths("(())", 1000.0f, 0.00001f), 0, 1);
        });
    }
}
