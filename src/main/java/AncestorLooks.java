/**
 * A tree that grows at its leaves, with questions for ancestors, ways, distances and shapes.
 *
 * Every row is made once, in the constructor, and used again by each call, so that no call makes an object.
 */
public final class AncestorLooks {
    public static final int UNKNOWN = -1;
    public static final int BAD_VALUE = -2;
    public static final int FULL = -3;
    public static final int NOT_POSSIBLE = -4;
    public static final int NONE = -5;

    private static final int MOST_NODES = 90;
    private static final int MOST_SIGNS = 60;
    private static final int MOST_STATES = 4;
    private static final int MOST_IN_SHAPE = 15;
    private static final int MOST_POWER = 6;
    private static final int ROOT = 0;
    /** What a row answers where there is no node; it is no number of a node. */
    private static final int NOBODY = -1;
    /** Stands in the row of parents for a node that was removed. */
    private static final int GONE = -2;
    private static final int NO_FAULT = -1;
    private static final int FAULT_BASE = -100;
    private static final int BITS_OF_ONE = 0x3F800000;
    /** The bits of 1000.0f: the bits of floats that are not negative rise as the floats do. */
    private static final int BITS_OF_THOUSAND = 0x447A0000;

    private final Tree tree;
    private final Text text;
    private final History history;
    private final Survey survey;
    private final Ways ways;
    private final Shapes shapes;

    public AncestorLooks() {
        tree = new Tree();
        text = new Text();
        history = new History();
        survey = new Survey(tree);
        ways = new Ways(tree, survey);
        shapes = new Shapes(tree, survey);
        lookAround();
    }

    // ---- growth

    public int addLeaf(int parent, int bits) {
        if (!tree.isNode(parent)) {
            return UNKNOWN;
        }
        if (!isLength(bits)) {
            return BAD_VALUE;
        }
        if (!tree.hasRoomFor(1)) {
            return FULL;
        }
        history.record(tree);
        int leaf = tree.append(parent, bits, toFloat(bits));
        lookAround();
        return leaf;
    }

    public int prune(int leaf) {
        if (!tree.isNode(leaf)) {
            return UNKNOWN;
        }
        if (leaf == ROOT || !survey.isLeaf(leaf)) {
            return NOT_POSSIBLE;
        }
        history.record(tree);
        int parent = tree.parentOf(leaf);
        tree.remove(leaf);
        lookAround();
        return survey.childrenOf(parent);
    }

    public int graft(int node, int parent) {
        if (!tree.isNode(node) || !tree.isNode(parent)) {
            return UNKNOWN;
        }
        if (node == ROOT || survey.isInBranch(parent, node)) {
            return NOT_POSSIBLE;
        }
        int before = tree.parentOf(node);
        if (before == parent) {
            return NONE;
        }
        history.record(tree);
        tree.hang(node, parent);
        lookAround();
        return before;
    }

    public int setLength(int node, int bits) {
        if (!tree.isNode(node)) {
            return UNKNOWN;
        }
        if (!isLength(bits)) {
            return BAD_VALUE;
        }
        if (node == ROOT) {
            return NOT_POSSIBLE;
        }
        int before = tree.bitsOf(node);
        if (before == bits) {
            return NONE;
        }
        history.record(tree);
        tree.stretch(node, bits, toFloat(bits));
        lookAround();
        return before;
    }

    // ---- texts

    public int type(char character) {
        return text.put(character) ? text.length() : FULL;
    }

    public int clearText() {
        int before = text.length();
        text.empty();
        return before;
    }

    public int grow(int parent) {
        if (!tree.isNode(parent)) {
            return UNKNOWN;
        }
        int fault = text.fault();
        if (fault != NO_FAULT) {
            return FAULT_BASE - fault;
        }
        int coming = text.branches();
        if (!tree.hasRoomFor(coming)) {
            return FULL;
        }
        history.record(tree);
        text.plant(tree, parent);
        lookAround();
        return coming;
    }

    // ---- history

    public int undo() {
        if (history.length() == 0) {
            return NONE;
        }
        history.takeBack(tree);
        lookAround();
        return history.length();
    }

    public int keep() {
        history.keepSnapshot(tree);
        return survey.present();
    }

    public int restore() {
        if (!history.hasSnapshot()) {
            return NONE;
        }
        history.record(tree);
        history.showSnapshot(tree);
        lookAround();
        return survey.present();
    }

    // ---- ancestors

    public int ancestor(int node, int steps) {
        if (!tree.isNode(node)) {
            return UNKNOWN;
        }
        if (steps < 0) {
            return BAD_VALUE;
        }
        return steps > survey.depthOf(node) ? NONE : survey.climb(node, steps);
    }

    public int looks(int node, int steps) {
        if (!tree.isNode(node)) {
            return UNKNOWN;
        }
        if (steps < 0) {
            return BAD_VALUE;
        }
        return steps > survey.depthOf(node) ? NONE : survey.looksFor(node, steps);
    }

    public int jump(int leaf, int power) {
        if (!tree.isNode(leaf)) {
            return UNKNOWN;
        }
        if (power < 0 || power > MOST_POWER) {
            return BAD_VALUE;
        }
        if (!survey.isLeaf(leaf)) {
            return NOT_POSSIBLE;
        }
        int steps = 1 << power;
        return steps > survey.depthOf(leaf) ? NONE : survey.climb(leaf, steps);
    }

    public int ladderAt(int node, int place) {
        if (!tree.isNode(node)) {
            return UNKNOWN;
        }
        if (place < 0) {
            return BAD_VALUE;
        }
        return place >= survey.ladderOf(node) ? NONE : survey.climb(survey.footOf(node), place);
    }

    public int node(int node, int what) {
        if (!tree.isNode(node)) {
            return UNKNOWN;
        }
        switch (what) {
            case 0:
                return orNone(tree.parentOf(node));
            case 1:
                return survey.depthOf(node);
            case 2:
                return survey.heightOf(node);
            case 3:
                return survey.childrenOf(node);
            case 4:
                return survey.sizeOf(node);
            case 5:
                return orNone(survey.longChildOf(node));
            case 6:
                return survey.topOf(node);
            case 7:
                return survey.footOf(node);
            case 8:
                return survey.longWayOf(node);
            case 9:
                return survey.ladderOf(node);
            default:
                return BAD_VALUE;
        }
    }

    // ---- ways and distances

    public int meeting(int node, int other) {
        if (!tree.isNode(node) || !tree.isNode(other)) {
            return UNKNOWN;
        }
        return survey.meetingOf(node, other);
    }

    public int wayAt(int from, int to, int place) {
        if (!tree.isNode(from) || !tree.isNode(to)) {
            return UNKNOWN;
        }
        if (place < 0) {
            return BAD_VALUE;
        }
        return orNone(ways.onWay(from, to, place));
    }

    public float real(int node, int what) {
        if (!tree.isNode(node) || what < 0 || what > 1) {
            return noFloat();
        }
        return what == 0 ? tree.lengthOf(node) : ways.pathOf(node);
    }

    public float distance(int node, int other) {
        if (!tree.isNode(node) || !tree.isNode(other)) {
            return noFloat();
        }
        return ways.between(node, other);
    }

    public int reach(int node, int bits) {
        if (!tree.isNode(node)) {
            return UNKNOWN;
        }
        if (!isLength(bits)) {
            return BAD_VALUE;
        }
        return ways.highestWithin(node, toFloat(bits));
    }

    public int farthest(int node) {
        if (!tree.isNode(node)) {
            return UNKNOWN;
        }
        return ways.farthestFrom(node);
    }

    public int apart(int which) {
        if (which < 0 || which > 1) {
            return BAD_VALUE;
        }
        ways.findPair();
        return which == 0 ? ways.pairFirst() : ways.pairSecond();
    }

    // ---- shapes

    public int shape(int node) {
        if (!tree.isNode(node)) {
            return UNKNOWN;
        }
        if (survey.sizeOf(node) > MOST_IN_SHAPE) {
            return NONE;
        }
        shapes.write();
        return shapes.shapeOf(node);
    }

    public int alike(int node) {
        if (!tree.isNode(node)) {
            return UNKNOWN;
        }
        if (survey.sizeOf(node) > MOST_IN_SHAPE) {
            return NONE;
        }
        shapes.write();
        return shapes.countLike(node);
    }

    public int tableAt(int place) {
        if (place < 0) {
            return BAD_VALUE;
        }
        shapes.write();
        shapes.sort();
        return place >= shapes.kinds() ? NONE : shapes.kindAt(place);
    }

    public int count(int what) {
        switch (what) {
            case 0:
                return survey.present();
            case 1:
                return tree.ever();
            case 2:
            case 3:
                // Each long way ends at a leaf of its own, and each leaf is on one: there are as many.
                return survey.countLeaves();
            case 4:
                return survey.countLadders();
            case 5:
                return survey.countJumps();
            case 6:
                return survey.heightOf(ROOT);
            case 7:
                shapes.write();
                shapes.sort();
                return shapes.kinds();
            case 8:
                return history.length();
            case 9:
                return text.length();
            default:
                return BAD_VALUE;
        }
    }

    /** Called after each change of the tree: the questions read only what was seen here. */
    private void lookAround() {
        survey.take();
        ways.take();
    }

    private static int orNone(int node) {
        return node == NOBODY ? NONE : node;
    }

    private static float noFloat() {
        return 0.0f / 0.0f;
    }

    private static boolean isLength(int bits) {
        return bits >= 0 && bits <= BITS_OF_THOUSAND;
    }

    /** The float of bits that isLength() takes. Each halving is exact, down to the smallest floats. */
    private static float toFloat(int bits) {
        int power = bits >> 23;
        int fraction = bits & 0x7FFFFF;
        // The power 0 means the same scale as 1, but without the hidden bit.
        float value = power == 0 ? (float) fraction : (float) (fraction + 0x800000);
        for (int scale = power == 0 ? 1 : power; scale < 150; scale++) {
            value = value * 0.5f;
        }
        return value;
    }

    /** A number for each node; a place outside is never touched and answers NOBODY. */
    private static final class Row {
        private final int[] cells;

        Row() {
            cells = new int[MOST_NODES];
        }

        int get(int place) {
            return place >= 0 && place < cells.length ? cells[place] : NOBODY;
        }

        void set(int place, int value) {
            if (place >= 0 && place < cells.length) {
                cells[place] = value;
            }
        }

        void fill(int value) {
            for (int place = 0; place < cells.length; place++) {
                cells[place] = value;
            }
        }

        void copyFrom(Row other) {
            for (int place = 0; place < cells.length; place++) {
                cells[place] = other.get(place);
            }
        }
    }

    /** A float for each node; a place outside is never touched and answers 0.0f. */
    private static final class FloatRow {
        private final float[] cells;

        FloatRow() {
            cells = new float[MOST_NODES];
        }

        float get(int place) {
            return place >= 0 && place < cells.length ? cells[place] : 0.0f;
        }

        void set(int place, float value) {
            if (place >= 0 && place < cells.length) {
                cells[place] = value;
            }
        }

        void copyFrom(FloatRow other) {
            for (int place = 0; place < cells.length; place++) {
                cells[place] = other.get(place);
            }
        }
    }

    /** A state: all that undo and restore bring back. */
    private static final class Tree {
        private final Row parents;
        private final Row bits;
        private final FloatRow lengths;
        private int ever;

        Tree() {
            parents = new Row();
            bits = new Row();
            lengths = new FloatRow();
            parents.set(ROOT, NOBODY);
            ever = 1;
        }

        int ever() {
            return ever;
        }

        boolean isNode(int node) {
            return node >= 0 && node < ever && parents.get(node) != GONE;
        }

        boolean hasRoomFor(int more) {
            return ever + more <= MOST_NODES;
        }

        int parentOf(int node) {
            return parents.get(node);
        }

        int bitsOf(int node) {
            return bits.get(node);
        }

        float lengthOf(int node) {
            return lengths.get(node);
        }

        int append(int parent, int itsBits, float length) {
            int node = ever;
            ever++;
            parents.set(node, parent);
            stretch(node, itsBits, length);
            return node;
        }

        void remove(int node) {
            parents.set(node, GONE);
        }

        void hang(int node, int parent) {
            parents.set(node, parent);
        }

        void stretch(int node, int itsBits, float length) {
            bits.set(node, itsBits);
            lengths.set(node, length);
        }

        void copyFrom(Tree other) {
            parents.copyFrom(other.parents);
            bits.copyFrom(other.bits);
            lengths.copyFrom(other.lengths);
            ever = other.ever;
        }
    }

    /** The text, with its faults and the branches that grow from it. */
    private static final class Text {
        private final char[] signs;
        private int used;

        Text() {
            signs = new char[MOST_SIGNS];
            used = 0;
        }

        int length() {
            return used;
        }

        boolean put(char sign) {
            if (used < 0 || used >= signs.length) {
                return false;
            }
            signs[used] = sign;
            used++;
            return true;
        }

        void empty() {
            used = 0;
        }

        int fault() {
            int open = 0;
            for (int place = 0; place < used && place < signs.length; place++) {
                if (signs[place] == '(') {
                    open++;
                } else if (signs[place] == ')' && open > 0) {
                    open--;
                } else {
                    return place;
                }
            }
            return used == 0 || open > 0 ? used : NO_FAULT;
        }

        /** Only for a text without a fault: half of its signs begin a branch, the other half end one. */
        int branches() {
            return used / 2;
        }

        /** Only for a text without a fault, so each ")" leads back to a node that came before. */
        void plant(Tree tree, int below) {
            int at = below;
            for (int place = 0; place < used && place < signs.length; place++) {
                at = signs[place] == '(' ? tree.append(at, BITS_OF_ONE, 1.0f) : tree.parentOf(at);
            }
        }
    }

    /** The latest states, the oldest first, and the snapshot. */
    private static final class History {
        private final Tree[] states;
        private final Tree snapshot;
        private int used;
        private boolean kept;

        History() {
            states = new Tree[MOST_STATES];
            for (int place = 0; place < states.length; place++) {
                states[place] = new Tree();
            }
            snapshot = new Tree();
            used = 0;
            kept = false;
        }

        int length() {
            return used;
        }

        boolean hasSnapshot() {
            return kept;
        }

        void record(Tree tree) {
            if (used >= states.length) {
                dropOldest();
            }
            Tree state = stateAt(used);
            if (state != null) {
                state.copyFrom(tree);
                used++;
            }
        }

        void takeBack(Tree tree) {
            Tree state = stateAt(used - 1);
            if (state != null) {
                tree.copyFrom(state);
                used--;
            }
        }

        void keepSnapshot(Tree tree) {
            snapshot.copyFrom(tree);
            kept = true;
        }

        void showSnapshot(Tree tree) {
            tree.copyFrom(snapshot);
        }

        /** The dropped state's rows go to the end, to hold the next one. */
        private void dropOldest() {
            Tree oldest = stateAt(0);
            for (int place = 1; place < states.length; place++) {
                states[place - 1] = states[place];
            }
            if (states.length > 0) {
                states[states.length - 1] = oldest;
            }
            used = states.length - 1;
        }

        private Tree stateAt(int place) {
            return place >= 0 && place < states.length ? states[place] : null;
        }
    }

    /** What can be told of the nodes without their lengths: depths, heights, long ways and ladders. */
    private static final class Survey {
        private final Tree tree;
        private final Row firstChild;
        private final Row nextChild;
        private final Row downward;
        private final Row depths;
        private final Row heights;
        private final Row children;
        private final Row sizes;
        private final Row longChildren;
        private final Row tops;
        private final Row feet;
        private int present;

        Survey(Tree tree) {
            this.tree = tree;
            firstChild = new Row();
            nextChild = new Row();
            downward = new Row();
            depths = new Row();
            heights = new Row();
            children = new Row();
            sizes = new Row();
            longChildren = new Row();
            tops = new Row();
            feet = new Row();
            present = 0;
        }

        void take() {
            linkChildren();
            goDown();
            goUp();
            findTops();
        }

        /** From the highest number to the lowest, so that each row of children comes out in their order. */
        private void linkChildren() {
            firstChild.fill(NOBODY);
            nextChild.fill(NOBODY);
            children.fill(0);
            for (int node = MOST_NODES - 1; node > ROOT; node--) {
                if (tree.isNode(node)) {
                    int parent = tree.parentOf(node);
                    nextChild.set(node, firstChild.get(parent));
                    firstChild.set(parent, node);
                    children.set(parent, children.get(parent) + 1);
                }
            }
        }

        /** A graft can put a node below one with a higher number, so numbers don't tell who is above. */
        private void goDown() {
            downward.set(0, ROOT);
            depths.set(ROOT, 0);
            present = 1;
            for (int place = 0; place < present && place < MOST_NODES; place++) {
                int node = downward.get(place);
                int child = firstChild.get(node);
                for (int turn = 0; turn < MOST_NODES && child != NOBODY; turn++) {
                    downward.set(present, child);
                    present++;
                    depths.set(child, depths.get(node) + 1);
                    child = nextChild.get(child);
                }
            }
        }

        private void goUp() {
            for (int place = present - 1; place >= 0; place--) {
                measure(downward.get(place));
            }
        }

        private void measure(int node) {
            int size = 1;
            int height = 0;
            int longest = NOBODY;
            int child = firstChild.get(node);
            for (int turn = 0; turn < MOST_NODES && child != NOBODY; turn++) {
                size += sizes.get(child);
                if (heights.get(child) + 1 > height) {
                    height = heights.get(child) + 1;
                    longest = child;
                }
                child = nextChild.get(child);
            }
            sizes.set(node, size);
            heights.set(node, height);
            longChildren.set(node, longest);
            feet.set(node, longest == NOBODY ? node : feet.get(longest));
        }

        private void findTops() {
            for (int place = 0; place < present && place < MOST_NODES; place++) {
                int node = downward.get(place);
                int parent = tree.parentOf(node);
                boolean goesOn = node != ROOT && longChildren.get(parent) == node;
                tops.set(node, goesOn ? tops.get(parent) : node);
            }
        }

        int present() {
            return present;
        }

        /** The nodes that are there, each one behind its parent. */
        int downwardAt(int place) {
            return downward.get(place);
        }

        int firstChildOf(int node) {
            return firstChild.get(node);
        }

        int nextChildOf(int node) {
            return nextChild.get(node);
        }

        int depthOf(int node) {
            return depths.get(node);
        }

        int heightOf(int node) {
            return heights.get(node);
        }

        int childrenOf(int node) {
            return children.get(node);
        }

        int sizeOf(int node) {
            return sizes.get(node);
        }

        int longChildOf(int node) {
            return longChildren.get(node);
        }

        int topOf(int node) {
            return tops.get(node);
        }

        /** The leaf of its long way. */
        int footOf(int node) {
            return feet.get(node);
        }

        boolean isLeaf(int node) {
            return children.get(node) == 0;
        }

        /** A long way goes down by the heights, so its top's height counts the steps of it. */
        int longWayOf(int node) {
            return heights.get(tops.get(node)) + 1;
        }

        int ladderOf(int node) {
            return longWayOf(node) + Math.min(longWayOf(node), depths.get(tops.get(node)));
        }

        int climb(int node, int steps) {
            int at = node;
            for (int step = 0; step < steps && at != NOBODY; step++) {
                at = tree.parentOf(at);
            }
            return at;
        }

        boolean isInBranch(int node, int above) {
            int steps = depths.get(node) - depths.get(above);
            return steps >= 0 && climb(node, steps) == above;
        }

        int meetingOf(int node, int other) {
            int left = climb(node, depths.get(node) - depths.get(other));
            int right = climb(other, depths.get(other) - depths.get(node));
            for (int turn = 0; turn < MOST_NODES && left != right; turn++) {
                left = tree.parentOf(left);
                right = tree.parentOf(right);
            }
            return left;
        }

        /** Only for steps that don't lead above the root. */
        int looksFor(int node, int steps) {
            if (steps == 0) {
                return 0;
            }
            int fromLeaf = heights.get(node) + steps;
            if (fromLeaf < ladderOf(node)) {
                return 1;
            }
            // The leaf and its jump; a jump that does not end there asks for one ladder more.
            return Integer.bitCount(fromLeaf) == 1 ? 2 : 3;
        }

        int countLeaves() {
            int leaves = 0;
            for (int place = 0; place < present && place < MOST_NODES; place++) {
                if (isLeaf(downward.get(place))) {
                    leaves++;
                }
            }
            return leaves;
        }

        int countLadders() {
            int all = 0;
            for (int place = 0; place < present && place < MOST_NODES; place++) {
                int node = downward.get(place);
                if (isLeaf(node)) {
                    all += ladderOf(node);
                }
            }
            return all;
        }

        int countJumps() {
            int all = 0;
            for (int place = 0; place < present && place < MOST_NODES; place++) {
                int node = downward.get(place);
                if (isLeaf(node)) {
                    all += jumpsFrom(depths.get(node));
                }
            }
            return all;
        }

        private static int jumpsFrom(int depth) {
            int jumps = 0;
            for (int power = 0; power <= MOST_POWER && 1 << power <= depth; power++) {
                jumps++;
            }
            return jumps;
        }
    }

    /** Path lengths, distances and the ways from node to node. */
    private static final class Ways {
        private final Tree tree;
        private final Survey survey;
        private final FloatRow paths;
        private final FloatRow meetingPaths;
        private final Row marks;
        private int pairFirst;
        private int pairSecond;

        Ways(Tree tree, Survey survey) {
            this.tree = tree;
            this.survey = survey;
            paths = new FloatRow();
            meetingPaths = new FloatRow();
            marks = new Row();
            pairFirst = ROOT;
            pairSecond = ROOT;
        }

        void take() {
            paths.set(ROOT, 0.0f);
            for (int place = 1; place < survey.present() && place < MOST_NODES; place++) {
                int node = survey.downwardAt(place);
                paths.set(node, paths.get(tree.parentOf(node)) + tree.lengthOf(node));
            }
        }

        float pathOf(int node) {
            return paths.get(node);
        }

        float between(int node, int other) {
            return sum(paths.get(node), paths.get(other), paths.get(survey.meetingOf(node, other)));
        }

        private static float sum(float one, float other, float middle) {
            return (one - middle) + (other - middle);
        }

        /** NOBODY if the way has not so many nodes. */
        int onWay(int from, int to, int place) {
            int middle = survey.depthOf(survey.meetingOf(from, to));
            int rise = survey.depthOf(from) - middle;
            int fall = survey.depthOf(to) - middle;
            if (place > rise + fall) {
                return NOBODY;
            }
            return place <= rise ? survey.climb(from, place) : survey.climb(to, rise + fall - place);
        }

        int highestWithin(int node, float within) {
            float path = paths.get(node);
            int highest = node;
            for (int turn = 0; turn < MOST_NODES; turn++) {
                int above = tree.parentOf(highest);
                if (above == NOBODY || path - paths.get(above) > within) {
                    return highest;
                }
                highest = above;
            }
            return highest;
        }

        int farthestFrom(int node) {
            findMeetings(node);
            return farthestFromOn(node, ROOT);
        }

        void findPair() {
            float greatest = -1.0f;
            for (int node = 0; node < MOST_NODES; node++) {
                if (tree.isNode(node)) {
                    findMeetings(node);
                    int other = farthestFromOn(node, node);
                    if (measured(node, other) > greatest) {
                        greatest = measured(node, other);
                        pairFirst = node;
                        pairSecond = other;
                    }
                }
            }
        }

        int pairFirst() {
            return pairFirst;
        }

        int pairSecond() {
            return pairSecond;
        }

        /**
         * Notes the path length of the meeting place of this node with each other one: a node on its own way
         * to the root is that place itself, any other one meets it where its parent does.
         */
        private void findMeetings(int node) {
            marks.fill(0);
            int at = node;
            for (int turn = 0; turn < MOST_NODES && at != NOBODY; turn++) {
                marks.set(at, 1);
                at = tree.parentOf(at);
            }
            for (int place = 0; place < survey.present() && place < MOST_NODES; place++) {
                int other = survey.downwardAt(place);
                boolean above = marks.get(other) == 1;
                meetingPaths.set(other, above ? paths.get(other) : meetingPaths.get(tree.parentOf(other)));
            }
        }

        private float measured(int node, int other) {
            return sum(paths.get(node), paths.get(other), meetingPaths.get(other));
        }

        /** The farthest of the nodes with this number or a higher one, after findMeetings(node). */
        private int farthestFromOn(int node, int lowest) {
            int farthest = node;
            float greatest = -1.0f;
            for (int other = lowest; other < MOST_NODES; other++) {
                if (tree.isNode(other) && measured(node, other) > greatest) {
                    greatest = measured(node, other);
                    farthest = other;
                }
            }
            return farthest;
        }
    }

    /** The shapes of small branches, and the table of those that occur. */
    private static final class Shapes {
        /** Stands for the shape of a branch that is too large to have one. */
        private static final int NO_SHAPE = 0;

        private final Tree tree;
        private final Survey survey;
        private final Row shapes;
        private final Row table;
        private int kinds;

        Shapes(Tree tree, Survey survey) {
            this.tree = tree;
            this.survey = survey;
            shapes = new Row();
            table = new Row();
            kinds = 0;
        }

        void write() {
            shapes.fill(NO_SHAPE);
            for (int place = survey.present() - 1; place >= 0; place--) {
                int node = survey.downwardAt(place);
                if (survey.sizeOf(node) <= MOST_IN_SHAPE) {
                    shapes.set(node, join(node));
                }
            }
        }

        /** A branch of n nodes has 2 * n digits, 30 at most, so that an int holds them. */
        private int join(int node) {
            int shape = 1;
            int child = survey.firstChildOf(node);
            for (int turn = 0; turn < MOST_IN_SHAPE && child != NOBODY; turn++) {
                shape = (shape << (2 * survey.sizeOf(child))) | shapes.get(child);
                child = survey.nextChildOf(child);
            }
            return shape << 1;
        }

        int shapeOf(int node) {
            return shapes.get(node);
        }

        int countLike(int node) {
            int like = 0;
            for (int other = 0; other < MOST_NODES; other++) {
                if (shapes.get(other) == shapes.get(node)) {
                    like++;
                }
            }
            return like;
        }

        /** After write(): makes the table of the shapes, each one once. */
        void sort() {
            kinds = 0;
            for (int node = 0; node < MOST_NODES; node++) {
                if (shapes.get(node) != NO_SHAPE) {
                    enter(shapes.get(node));
                }
            }
        }

        private void enter(int shape) {
            int place = 0;
            while (place < kinds && table.get(place) < shape) {
                place++;
            }
            if (place < kinds && table.get(place) == shape) {
                return;
            }
            for (int later = kinds; later > place; later--) {
                table.set(later, table.get(later - 1));
            }
            table.set(place, shape);
            kinds++;
        }

        int kinds() {
            return kinds;
        }

        int kindAt(int place) {
            return table.get(place);
        }
    }
}
