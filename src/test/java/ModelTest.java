/**
 * Runs of mixed calls, each answered by the class and by the plain model. The numbers come from a fixed row,
 * so that each run is the same each time.
 */
public final class ModelTest {
    private static final int RUNS = 160;
    private static final int CALLS = 512;
    /** The longest text of TEXTS, clearText() and grow(), and two questions of two calls. */
    private static final int MOST_IN_A_ROUND = 36;
    private static final float[] LENGTHS = {0.0f, 1.0f, 1.0f, 2.0f, 0.1f, 0.3f, 1000.0f, 999.99994f, 1.0e-7f,
        Float.MIN_VALUE, Float.MIN_NORMAL, 3.3333f, 123.456f, 2.5f, -0.0f, -1.0f, 1000.0001f, Float.NaN};
    private static final String[] TEXTS = {"()", "(())", "()()", "(()())", "((()))(())", "(((((((((())))))))))",
        "(()(()))((())())", "()()()()()()()()", "", "(", "())", "(x)", ")", "()(", "((((((((((((((()))))))))))))))"};

    private long row;
    private final AncestorLooks looks = new AncestorLooks();
    private final PlainModel model = new PlainModel();
    private final int run;

    private ModelTest(int run) {
        this.run = run;
        row = run * 7919L + 17;
    }

    public static void main(String[] args) {
        for (int run = 0; run < RUNS; run++) {
            ModelTest test = new ModelTest(run);
            for (int calls = 0; calls + MOST_IN_A_ROUND <= CALLS;) {
                calls += test.act() + test.ask() + test.ask();
            }
        }
        Due.end();
    }

    private int below(int bound) {
        row = row * 6364136223846793005L + 1442695040888963407L;
        return (int) ((row >>> 33) % bound);
    }

    /** Mostly a number that was given, sometimes one far out. */
    private int someNode() {
        int ever = model.count(1);
        switch (below(24)) {
            case 0:
                return -1;
            case 1:
                return ever;
            case 2:
                return below(2) == 0 ? Integer.MAX_VALUE : Integer.MIN_VALUE;
            case 3:
            case 4:
                return 0;
            default:
                return below(ever);
        }
    }

    /** In runs with deep trees mostly the latest node that is there. */
    private int someParent() {
        if (run % 4 == 0 && below(8) != 0) {
            for (int node = model.count(1) - 1; node >= 0; node--) {
                if (model.node(node, 1) >= 0) {
                    return node;
                }
            }
        }
        return someNode();
    }

    private int someNumber(int bound) {
        switch (below(16)) {
            case 0:
                return -1;
            case 1:
                return below(2) == 0 ? Integer.MAX_VALUE : Integer.MIN_VALUE;
            default:
                return below(bound);
        }
    }

    private int someBits() {
        if (run % 3 == 0) {
            return Due.bits(LENGTHS[below(LENGTHS.length)]);
        }
        return run % 3 == 1 ? below(0x447A0010) : Due.bits(below(5));
    }

    private void due(String call, int got, int want) {
        Due.is("run " + run + ": " + call, got, want);
    }

    private static String called(String name, int... arguments) {
        StringBuilder call = new StringBuilder(name);
        for (int argument : arguments) {
            call.append(' ').append(argument);
        }
        return call.toString();
    }

    /** Answers how many calls it made. */
    private int act() {
        int kind = below(run % 5 == 0 ? 22 : 16);
        int node = someNode();
        int parent = someParent();
        int bits = someBits();
        if (kind < 8) {
            due(called("addLeaf", parent, bits), looks.addLeaf(parent, bits), model.addLeaf(parent, bits));
        } else if (kind < 9) {
            due(called("prune", node), looks.prune(node), model.prune(node));
        } else if (kind < 11) {
            due(called("graft", node, parent), looks.graft(node, parent), model.graft(node, parent));
        } else if (kind < 13) {
            due(called("setLength", node, bits), looks.setLength(node, bits), model.setLength(node, bits));
        } else if (kind < 14) {
            return growText(parent);
        } else if (kind < 16) {
            turnBack();
        } else if (kind < 19) {
            due(called("prune", node), looks.prune(node), model.prune(node));
        } else {
            due("undo", looks.undo(), model.undo());
        }
        return 1;
    }

    private int growText(int parent) {
        String text = TEXTS[below(TEXTS.length)];
        if (below(3) != 0) {
            due("clearText", looks.clearText(), model.clearText());
        }
        for (int at = 0; at < text.length(); at++) {
            due(called("type", text.charAt(at)), looks.type(text.charAt(at)), model.type(text.charAt(at)));
        }
        due(called("grow", parent), looks.grow(parent), model.grow(parent));
        return text.length() + 2;
    }

    private void turnBack() {
        switch (below(6)) {
            case 0:
                due("keep", looks.keep(), model.keep());
                break;
            case 1:
                due("restore", looks.restore(), model.restore());
                break;
            default:
                due("undo", looks.undo(), model.undo());
        }
    }

    /** Answers how many calls it made. */
    private int ask() {
        int kind = below(16);
        int node = someNode();
        int other = someNode();
        if (kind < 8) {
            askUpward(kind, node, other);
        } else {
            askAround(kind, node, other);
        }
        return kind == 14 ? 2 : 1;
    }

    private void askUpward(int kind, int node, int other) {
        int number = someNumber(kind < 2 ? 30 : kind == 2 ? 8 : 12);
        switch (kind) {
            case 0:
                due(called("ancestor", node, number), looks.ancestor(node, number), model.ancestor(node, number));
                break;
            case 1:
                due(called("looks", node, number), looks.looks(node, number), model.looks(node, number));
                break;
            case 2:
                due(called("jump", node, number), looks.jump(node, number), model.jump(node, number));
                break;
            case 3:
                due(called("ladderAt", node, number), looks.ladderAt(node, number), model.ladderAt(node, number));
                break;
            case 4:
            case 5:
                due(called("node", node, number), looks.node(node, number), model.node(node, number));
                break;
            case 6:
                due(called("meeting", node, other), looks.meeting(node, other), model.meeting(node, other));
                break;
            default:
                due(called("wayAt", node, other, number), looks.wayAt(node, other, number), model.wayAt(node, other, number));
        }
    }

    private void askAround(int kind, int node, int other) {
        int number = someNumber(kind == 8 || kind == 12 ? 3 : 12);
        int bits = someBits();
        switch (kind) {
            case 8:
                Due.real(called("real", run, node, number), looks.real(node, number), model.real(node, number));
                break;
            case 9:
                Due.real(called("distance", run, node, other), looks.distance(node, other), model.distance(node, other));
                break;
            case 10:
                due(called("reach", node, bits), looks.reach(node, bits), model.reach(node, bits));
                break;
            case 11:
                due(called("farthest", node), looks.farthest(node), model.farthest(node));
                break;
            case 12:
                due(called("apart", number), looks.apart(number), model.apart(number));
                break;
            case 13:
                due(called("shape", node), looks.shape(node), model.shape(node));
                break;
            case 14:
                due(called("alike", node), looks.alike(node), model.alike(node));
                due(called("tableAt", number), looks.tableAt(number), model.tableAt(number));
                break;
            default:
                due(called("count", number), looks.count(number), model.count(number));
        }
    }
}
