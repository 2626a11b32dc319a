import java.util.ArrayList;
import java.util.List;

/**
 * A few large trees of which each question is asked with each node, each place and each number of steps, up to one
 * behind the last; the plain model tells what is due. As an object has no more than 512 calls, it is built again when
 * they are used up.
 */
public final class EveryQuestionTest implements Answers {
    private static final int CALLS = 512;
    private static final float[] LENGTHS = {1.0f, 0.1f, 0.3f, 0.0f, 1000.0f, 0.00001f, 3.3333f, 512.7f, Float.MIN_VALUE};

    private final String name;
    private final List<int[]> acts = new ArrayList<>();
    private final PlainModel model = new PlainModel();
    private AncestorLooks looks = new AncestorLooks();
    private int calls = 0;

    private EveryQuestionTest(String name) {
        this.name = name;
    }

    public static void main(String[] args) {
        crooked().askAll();
        comb().askAll();
        bush().askAll();
        Due.end();
    }

    /** Deep, with branches that were grafted below higher numbers, and numbers that are gone. */
    private static EveryQuestionTest crooked() {
        EveryQuestionTest tree = new EveryQuestionTest("crooked");
        for (int node = 1; node < 90; node++) {
            tree.act('a', node - 1 - (node * node) % Math.min(node, 5), Due.bits(LENGTHS[node % LENGTHS.length]));
        }
        for (int node = 3; node < 90; node += 7) {
            tree.act('g', node, (node * 37 + 11) % 90);
        }
        for (int node = 1; node < 90; node += 4) {
            tree.act('p', node, 0);
        }
        return tree;
    }

    /** One way down, with a way of its own beside each third node, so that ladders end at many places. */
    private static EveryQuestionTest comb() {
        EveryQuestionTest tree = new EveryQuestionTest("comb");
        for (int node = 1; node < 50; node++) {
            tree.act('a', node - 1, ONE);
        }
        int next = 50;
        for (int foot = 47; foot > 0 && next < 90; foot -= 3) {
            int below = foot;
            for (int more = 0; more < 1 + foot % 5 && next < 90; more++) {
                tree.act('a', below, TWO);
                below = next;
                next++;
            }
        }
        return tree;
    }

    /** Many small branches of few shapes. */
    private static EveryQuestionTest bush() {
        EveryQuestionTest tree = new EveryQuestionTest("bush");
        for (int node = 1; node < 90; node++) {
            tree.act('a', (node - 1) / 3 - node % 2 * (node % 5 == 0 ? 1 : 0), Due.bits(0.1f * (node % 4)));
        }
        return tree;
    }

    private void act(int kind, int node, int with) {
        int[] act = {kind, node, with};
        acts.add(act);
        int due = kind == 'a' ? model.addLeaf(node, with) : kind == 'g' ? model.graft(node, with) : model.prune(node);
        is("an act " + (char) kind + " " + node + " " + with, built(looks, act), due);
        calls++;
    }

    private static int built(AncestorLooks looks, int[] act) {
        switch (act[0]) {
            case 'a':
                return looks.addLeaf(act[1], act[2]);
            case 'g':
                return looks.graft(act[1], act[2]);
            default:
                return looks.prune(act[1]);
        }
    }

    /** An object with this tree that has a call left. */
    private AncestorLooks looks() {
        if (calls == CALLS) {
            looks = new AncestorLooks();
            for (int[] act : acts) {
                built(looks, act);
            }
            calls = acts.size();
        }
        calls++;
        return looks;
    }

    private void is(String call, long got, long want) {
        Due.is(name + ": " + call, got, want);
    }

    private void askAll() {
        for (int node = -1; node <= model.count(1); node++) {
            askSteps(node);
            askNode(node);
            for (int other = -1; other <= model.count(1); other++) {
                askPair(node, other);
            }
        }
        for (int which = -1; which <= 2; which++) {
            is("apart " + which, looks().apart(which), model.apart(which));
        }
        for (int what = -1; what <= 10; what++) {
            is("count " + what, looks().count(what), model.count(what));
        }
        for (int place = -1; place <= model.count(7); place++) {
            is("tableAt " + place, looks().tableAt(place), model.tableAt(place));
        }
    }

    private void askSteps(int node) {
        for (int steps = -1; steps <= Math.max(0, model.node(node, 1)) + 1; steps++) {
            is("ancestor " + node + " " + steps, looks().ancestor(node, steps), model.ancestor(node, steps));
            is("looks " + node + " " + steps, looks().looks(node, steps), model.looks(node, steps));
        }
        for (int power = -1; power <= 7; power++) {
            is("jump " + node + " " + power, looks().jump(node, power), model.jump(node, power));
        }
        for (int place = -1; place <= Math.max(0, model.node(node, 9)); place++) {
            is("ladderAt " + node + " " + place, looks().ladderAt(node, place), model.ladderAt(node, place));
        }
    }

    private void askNode(int node) {
        for (int what = -1; what <= 10; what++) {
            is("node " + node + " " + what, looks().node(node, what), model.node(node, what));
        }
        for (int what = -1; what <= 2; what++) {
            Due.real(name + ": real " + node + " " + what, looks().real(node, what), model.real(node, what));
        }
        is("farthest " + node, looks().farthest(node), model.farthest(node));
        is("shape " + node, looks().shape(node), model.shape(node));
        is("alike " + node, looks().alike(node), model.alike(node));
        for (int steps = 0; steps <= model.node(node, 1); steps++) {
            // The reach that is just enough for this ancestor, and the nearest ones below and above it.
            int enough = Due.bits(model.real(node, 1) - model.real(model.ancestor(node, steps), 1));
            for (int bits = enough - 1; bits <= enough + 1; bits++) {
                is("reach " + node + " " + bits, looks().reach(node, bits), model.reach(node, bits));
            }
        }
    }

    private void askPair(int node, int other) {
        is("meeting " + node + " " + other, looks().meeting(node, other), model.meeting(node, other));
        Due.real(name + ": distance " + node + " " + other, looks().distance(node, other), model.distance(node, other));
        int due = 0;
        for (int place = -1; place <= 0 || due >= 0; place++) {
            due = model.wayAt(node, other, place);
            is("wayAt " + node + " " + other + " " + place, looks().wayAt(node, other, place), due);
        }
    }
}
