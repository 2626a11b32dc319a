/** Compares answers with those that are due, and ends a test with exit code 1 if one was wrong. */
final class Due {
    private static int asked = 0;
    private static int wrong = 0;
    /** Stands before each line that tells of a wrong answer. */
    private static String where = "";

    private Due() {
    }

    static void under(String heading) {
        where = heading;
    }

    static int asked() {
        return asked;
    }

    static void is(String call, long got, long want) {
        asked++;
        if (got != want) {
            wrong++;
            System.out.println(where + call + " answered " + got + ", due is " + want);
        }
    }

    /** By the bits, so that 0.0f and -0.0f differ; but any NaN is as good as another one. */
    static void real(String call, float got, float want) {
        asked++;
        if (Float.floatToIntBits(got) != Float.floatToIntBits(want)) {
            wrong++;
            System.out.println(where + call + " answered " + got + ", due is " + want);
        }
    }

    static void holds(String what, boolean so) {
        asked++;
        if (!so) {
            wrong++;
            System.out.println(where + "does not hold: " + what);
        }
    }

    static void end() {
        System.out.println(asked + " answers, " + wrong + " of them not as due");
        if (asked == 0 || wrong != 0) {
            System.exit(1);
        }
    }

    static int bits(float length) {
        return Float.floatToRawIntBits(length);
    }

    static void typeAll(AncestorLooks looks, String text) {
        for (int i = 0; i < text.length(); i++) {
            looks.type(text.charAt(i));
        }
    }

    static void undoTimes(AncestorLooks looks, int times) {
        for (int time = 0; time < times; time++) {
            looks.undo();
        }
    }

    /** A tree grown at the root from a text: its nodes are 1, 2, 3, ... in the order of their "(". */
    static AncestorLooks grown(String text) {
        AncestorLooks looks = new AncestorLooks();
        typeAll(looks, text);
        is("grow(0) of " + text, looks.grow(0), text.chars().filter(c -> c == '(').count());
        looks.clearText();
        return looks;
    }

    /** A tree of one way down: the root 0 and below it 1 to last, each below the one before. */
    static AncestorLooks chain(int last) {
        AncestorLooks looks = new AncestorLooks();
        for (int node = 1; node <= last; node++) {
            is("addLeaf in a chain", looks.addLeaf(node - 1, bits(1.0f)), node);
        }
        return looks;
    }
}
