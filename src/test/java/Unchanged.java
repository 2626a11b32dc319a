import java.util.ArrayList;
import java.util.List;
import java.util.function.Supplier;

/**
 * Calls that return an error or NONE: what stands after one is compared with what stands in a twin that never had it,
 * down to the last state of the history, the text and the snapshot.
 */
final class Unchanged implements Answers {
    private static final int[] READ = {0, 1, 2, 3, 4, 5, 6, 7, 88, 89};

    private final Supplier<AncestorLooks> twins;
    private final List<String> before;

    private Unchanged(Supplier<AncestorLooks> twins) {
        this.twins = twins;
        before = told(twins.get());
    }

    static Unchanged of(Supplier<AncestorLooks> twins) {
        return new Unchanged(twins);
    }

    /** A call, whatever number it returns. */
    interface Call {
        float on(AncestorLooks looks);
    }

    Unchanged by(String name, float due, Call call) {
        AncestorLooks looks = twins.get();
        Due.real(name, call.on(looks), due);
        List<String> after = told(looks);
        for (int at = 0; at < before.size() || at < after.size(); at++) {
            String was = at < before.size() ? before.get(at) : "nothing";
            String is = at < after.size() ? after.get(at) : "nothing";
            Due.holds(name + " changes nothing, but " + was + " became " + is, was.equals(is));
        }
        return this;
    }

    /**
     * Numbers 0 to 6, of which 6 is gone, lengths, a full history, a snapshot that is older than each state of it, and
     * a text.
     */
    static AncestorLooks rich(String text) {
        AncestorLooks looks = new AncestorLooks();
        looks.addLeaf(0, ONE);
        looks.addLeaf(0, TWO);
        looks.keep();
        looks.addLeaf(1, Due.bits(0.5f));
        looks.addLeaf(3, Due.bits(0.25f));
        looks.addLeaf(2, THOUSAND);
        looks.addLeaf(0, ZERO);
        looks.prune(6);
        Due.typeAll(looks, text);
        return looks;
    }

    /** Uses the object up: its state, those of the history, what its text grows, and the snapshot. */
    private static List<String> told(AncestorLooks looks) {
        List<String> told = new ArrayList<>();
        tellAll(looks, told);
        // An undo() of nothing may be the very call that is looked into, so it is not made here.
        for (int time = 0; time < 5 && looks.count(8) > 0; time++) {
            told.add("undo() " + looks.undo());
            tellState(looks, told);
        }
        told.add("grow(0) " + looks.grow(0));
        tellState(looks, told);
        told.add("clearText() " + looks.clearText());
        told.add("restore() " + looks.restore());
        tellState(looks, told);
        return told;
    }

    private static void tellAll(AncestorLooks looks, List<String> told) {
        for (int what = 0; what <= 9; what++) {
            told.add("count(" + what + ") " + looks.count(what));
        }
        for (int node : READ) {
            for (int what = 0; what <= 9; what++) {
                told.add("node(" + node + ", " + what + ") " + looks.node(node, what));
            }
            told.add("real(" + node + ", 1) " + looks.real(node, 1));
            told.add("shape(" + node + ") " + looks.shape(node));
        }
        tellState(looks, told);
    }

    private static void tellState(AncestorLooks looks, List<String> told) {
        told.add("count(0) " + looks.count(0));
        told.add("count(1) " + looks.count(1));
        for (int node : READ) {
            told.add("node(" + node + ", 0) " + looks.node(node, 0));
            told.add("real(" + node + ", 0) " + Float.floatToRawIntBits(looks.real(node, 0)));
        }
    }
}
