import java.util.ArrayList;
import java.util.Collections;
import java.util.List;
import java.util.TreeMap;
import java.util.TreeSet;

/** The document's words again, in their slowest form, to compare the class with: everything is made anew when asked. */
final class PlainModel {
    private static final int UNKNOWN = -1;
    private static final int BAD_VALUE = -2;
    private static final int FULL = -3;
    private static final int NOT_POSSIBLE = -4;
    private static final int NONE = -5;

    /** The nodes that are there, by their numbers, each with {parent, bits}. */
    private TreeMap<Integer, int[]> nodes = new TreeMap<>();
    private int ever = 1;
    private String text = "";
    private final List<Object[]> history = new ArrayList<>();
    private Object[] snapshot = null;

    PlainModel() {
        nodes.put(0, new int[] {-1, 0});
    }

    private Object[] state() {
        return new Object[] {new TreeMap<>(nodes), ever};
    }

    @SuppressWarnings("unchecked")
    private void show(Object[] state) {
        nodes = new TreeMap<>((TreeMap<Integer, int[]>) state[0]);
        ever = (Integer) state[1];
    }

    private void record() {
        history.add(state());
        if (history.size() > 4) {
            history.remove(0);
        }
    }

    private boolean is(int node) {
        return nodes.containsKey(node);
    }

    private static boolean inRange(int bits) {
        float length = Float.intBitsToFloat(bits);
        return length >= 0.0f && length <= 1000.0f && bits != Float.floatToRawIntBits(-0.0f);
    }

    private List<Integer> childrenOf(int node) {
        List<Integer> children = new ArrayList<>();
        nodes.forEach((child, of) -> {
            if (of[0] == node) {
                children.add(child);
            }
        });
        return children;
    }

    /** The node and its ancestors, up to the root. */
    private List<Integer> up(int node) {
        List<Integer> way = new ArrayList<>();
        for (int at = node; at != -1; at = nodes.get(at)[0]) {
            way.add(at);
        }
        return way;
    }

    private int height(int node) {
        int height = 0;
        for (int child : childrenOf(node)) {
            height = Math.max(height, height(child) + 1);
        }
        return height;
    }

    private int size(int node) {
        int size = 1;
        for (int child : childrenOf(node)) {
            size += size(child);
        }
        return size;
    }

    private int longChild(int node) {
        int best = NONE;
        for (int child : childrenOf(node)) {
            if (best == NONE || height(child) > height(best)) {
                best = child;
            }
        }
        return best;
    }

    /** From the leaf up. */
    private List<Integer> longWay(int node) {
        int top = node;
        while (top != 0 && longChild(nodes.get(top)[0]) == top) {
            top = nodes.get(top)[0];
        }
        List<Integer> way = new ArrayList<>();
        for (int at = top; at != NONE; at = longChild(at)) {
            way.add(at);
        }
        Collections.reverse(way);
        return way;
    }

    private List<Integer> ladder(int node) {
        List<Integer> way = longWay(node);
        List<Integer> ladder = new ArrayList<>(way);
        List<Integer> above = up(way.get(way.size() - 1));
        for (int i = 1; i <= way.size() && i < above.size(); i++) {
            ladder.add(above.get(i));
        }
        return ladder;
    }

    private List<Integer> jumps(int leaf) {
        List<Integer> above = up(leaf);
        List<Integer> jumps = new ArrayList<>();
        for (int steps = 1; steps < above.size(); steps *= 2) {
            jumps.add(above.get(steps));
        }
        return jumps;
    }

    private float length(int node) {
        return Float.intBitsToFloat(nodes.get(node)[1]);
    }

    private float path(int node) {
        return node == 0 ? 0.0f : path(nodes.get(node)[0]) + length(node);
    }

    private String digits(int node) {
        StringBuilder digits = new StringBuilder("1");
        for (int child : childrenOf(node)) {
            digits.append(digits(child));
        }
        return digits.append('0').toString();
    }

    private TreeSet<Integer> table() {
        TreeSet<Integer> table = new TreeSet<>();
        for (int node : nodes.keySet()) {
            if (size(node) <= 15) {
                table.add(shape(node));
            }
        }
        return table;
    }

    private List<Integer> leaves() {
        List<Integer> leaves = new ArrayList<>();
        for (int node : nodes.keySet()) {
            if (childrenOf(node).isEmpty()) {
                leaves.add(node);
            }
        }
        return leaves;
    }

    private void put(int parent, int bits) {
        nodes.put(ever, new int[] {parent, bits});
        ever++;
    }

    int addLeaf(int parent, int bits) {
        if (!is(parent)) {
            return UNKNOWN;
        }
        if (!inRange(bits)) {
            return BAD_VALUE;
        }
        if (ever == 90) {
            return FULL;
        }
        record();
        put(parent, bits);
        return ever - 1;
    }

    int prune(int leaf) {
        if (!is(leaf)) {
            return UNKNOWN;
        }
        if (leaf == 0 || !childrenOf(leaf).isEmpty()) {
            return NOT_POSSIBLE;
        }
        record();
        int parent = nodes.remove(leaf)[0];
        return childrenOf(parent).size();
    }

    int graft(int node, int parent) {
        if (!is(node) || !is(parent)) {
            return UNKNOWN;
        }
        if (node == 0 || up(parent).contains(node)) {
            return NOT_POSSIBLE;
        }
        int[] before = nodes.get(node);
        if (before[0] == parent) {
            return NONE;
        }
        record();
        nodes.put(node, new int[] {parent, before[1]});
        return before[0];
    }

    int setLength(int node, int bits) {
        if (!is(node)) {
            return UNKNOWN;
        }
        if (!inRange(bits)) {
            return BAD_VALUE;
        }
        if (node == 0) {
            return NOT_POSSIBLE;
        }
        int[] before = nodes.get(node);
        if (before[1] == bits) {
            return NONE;
        }
        record();
        nodes.put(node, new int[] {before[0], bits});
        return before[1];
    }

    int type(char character) {
        if (text.length() == 60) {
            return FULL;
        }
        text += character;
        return text.length();
    }

    int clearText() {
        int before = text.length();
        text = "";
        return before;
    }

    /** Reads one branch from a place, and answers the place behind it, or -1 - its fault. */
    private int readBranch(int from) {
        if (from >= text.length() || text.charAt(from) != '(') {
            return -1 - from;
        }
        int at = from + 1;
        while (at < text.length() && text.charAt(at) == '(') {
            at = readBranch(at);
            if (at < 0) {
                return at;
            }
        }
        return at < text.length() && text.charAt(at) == ')' ? at + 1 : -1 - at;
    }

    private int plantBranch(int from, int parent) {
        int node = ever;
        put(parent, Float.floatToRawIntBits(1.0f));
        int at = from + 1;
        while (text.charAt(at) == '(') {
            at = plantBranch(at, node);
        }
        return at + 1;
    }

    int grow(int parent) {
        if (!is(parent)) {
            return UNKNOWN;
        }
        int at = 0;
        do {
            at = readBranch(at);
            if (at < 0) {
                return -100 - (-1 - at);
            }
        } while (at < text.length());
        int coming = text.length() / 2;
        if (ever + coming > 90) {
            return FULL;
        }
        record();
        for (at = 0; at < text.length();) {
            at = plantBranch(at, parent);
        }
        return coming;
    }

    int undo() {
        if (history.isEmpty()) {
            return NONE;
        }
        show(history.remove(history.size() - 1));
        return history.size();
    }

    int keep() {
        snapshot = state();
        return nodes.size();
    }

    int restore() {
        if (snapshot == null) {
            return NONE;
        }
        record();
        show(snapshot);
        return nodes.size();
    }

    int ancestor(int node, int steps) {
        if (!is(node)) {
            return UNKNOWN;
        }
        if (steps < 0) {
            return BAD_VALUE;
        }
        return steps < up(node).size() ? up(node).get(steps) : NONE;
    }

    int looks(int node, int steps) {
        int sought = ancestor(node, steps);
        if (sought < 0) {
            return sought;
        }
        if (steps == 0) {
            return 0;
        }
        if (ladder(node).contains(sought)) {
            return 1;
        }
        int leaf = longWay(node).get(0);
        int fromLeaf = up(leaf).indexOf(sought);
        int power = 31 - Integer.numberOfLeadingZeros(fromLeaf);
        int reached = jumps(leaf).get(power);
        if (reached == sought) {
            return 2;
        }
        if (!ladder(reached).contains(sought)) {
            throw new IllegalStateException("the document says that it is on this ladder");
        }
        return 3;
    }

    int jump(int leaf, int power) {
        if (!is(leaf)) {
            return UNKNOWN;
        }
        if (power < 0 || power > 6) {
            return BAD_VALUE;
        }
        if (!childrenOf(leaf).isEmpty()) {
            return NOT_POSSIBLE;
        }
        return power < jumps(leaf).size() ? jumps(leaf).get(power) : NONE;
    }

    int ladderAt(int node, int place) {
        if (!is(node)) {
            return UNKNOWN;
        }
        if (place < 0) {
            return BAD_VALUE;
        }
        return place < ladder(node).size() ? ladder(node).get(place) : NONE;
    }

    int node(int node, int what) {
        if (!is(node)) {
            return UNKNOWN;
        }
        switch (what) {
            case 0:
                return node == 0 ? NONE : nodes.get(node)[0];
            case 1:
                return up(node).size() - 1;
            case 2:
                return height(node);
            case 3:
                return childrenOf(node).size();
            case 4:
                return size(node);
            case 5:
                return longChild(node);
            case 6:
                return longWay(node).get(longWay(node).size() - 1);
            case 7:
                return longWay(node).get(0);
            case 8:
                return longWay(node).size();
            case 9:
                return ladder(node).size();
            default:
                return BAD_VALUE;
        }
    }

    int meeting(int node, int other) {
        if (!is(node) || !is(other)) {
            return UNKNOWN;
        }
        List<Integer> way = up(node);
        way.retainAll(up(other));
        return way.get(0);
    }

    int wayAt(int from, int to, int place) {
        if (!is(from) || !is(to)) {
            return UNKNOWN;
        }
        if (place < 0) {
            return BAD_VALUE;
        }
        int middle = meeting(from, to);
        List<Integer> way = up(from).subList(0, up(from).indexOf(middle) + 1);
        List<Integer> fall = up(to).subList(0, up(to).indexOf(middle));
        Collections.reverse(fall);
        way.addAll(fall);
        return place < way.size() ? way.get(place) : NONE;
    }

    float real(int node, int what) {
        if (!is(node) || what < 0 || what > 1) {
            return Float.NaN;
        }
        return what == 0 ? length(node) : path(node);
    }

    float distance(int node, int other) {
        if (!is(node) || !is(other)) {
            return Float.NaN;
        }
        float m = path(meeting(node, other));
        return (path(node) - m) + (path(other) - m);
    }

    int reach(int node, int bits) {
        if (!is(node)) {
            return UNKNOWN;
        }
        if (!inRange(bits)) {
            return BAD_VALUE;
        }
        int highest = node;
        for (int above : up(node)) {
            if (path(node) - path(above) > Float.intBitsToFloat(bits)) {
                break;
            }
            highest = above;
        }
        return highest;
    }

    int farthest(int node) {
        if (!is(node)) {
            return UNKNOWN;
        }
        int best = NONE;
        for (int other : nodes.keySet()) {
            if (best == NONE || distance(node, other) > distance(node, best)) {
                best = other;
            }
        }
        return best;
    }

    int apart(int which) {
        if (which != 0 && which != 1) {
            return BAD_VALUE;
        }
        int[] best = {0, 0};
        float greatest = 0.0f;
        for (int a : nodes.keySet()) {
            for (int b : nodes.tailMap(a).keySet()) {
                float far = distance(a, b);
                if (far > greatest) {
                    greatest = far;
                    best = new int[] {a, b};
                }
            }
        }
        return best[which];
    }

    int shape(int node) {
        if (!is(node)) {
            return UNKNOWN;
        }
        return size(node) > 15 ? NONE : Integer.parseInt(digits(node), 2);
    }

    int alike(int node) {
        if (shape(node) < 0) {
            return shape(node);
        }
        int alike = 0;
        for (int other : nodes.keySet()) {
            if (digits(other).equals(digits(node))) {
                alike++;
            }
        }
        return alike;
    }

    int tableAt(int place) {
        if (place < 0) {
            return BAD_VALUE;
        }
        List<Integer> table = new ArrayList<>(table());
        return place < table.size() ? table.get(place) : NONE;
    }

    int count(int what) {
        switch (what) {
            case 0:
                return nodes.size();
            case 1:
                return ever;
            case 2:
                return leaves().size();
            case 3:
                TreeSet<Integer> tops = new TreeSet<>();
                nodes.keySet().forEach(node -> tops.add(node(node, 6)));
                return tops.size();
            case 4:
                int rungs = 0;
                for (int leaf : leaves()) {
                    rungs += ladder(leaf).size();
                }
                return rungs;
            case 5:
                int jumps = 0;
                for (int leaf : leaves()) {
                    jumps += jumps(leaf).size();
                }
                return jumps;
            case 6:
                int deepest = 0;
                for (int node : nodes.keySet()) {
                    deepest = Math.max(deepest, up(node).size() - 1);
                }
                return deepest;
            case 7:
                return table().size();
            case 8:
                return history.size();
            case 9:
                return text.length();
            default:
                return BAD_VALUE;
        }
    }
}
