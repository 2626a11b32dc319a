/** The document's constants, by the numbers that it tells, and the bits of some lengths. */
interface Answers {
    int UNKNOWN = -1;
    int BAD_VALUE = -2;
    int FULL = -3;
    int NOT_POSSIBLE = -4;
    int NONE = -5;

    int ZERO = 0;
    int ONE = Due.bits(1.0f);
    int TWO = Due.bits(2.0f);
    int THOUSAND = Due.bits(1000.0f);
    int MINUS_ZERO = Due.bits(-0.0f);

    int MIN = Integer.MIN_VALUE;
    int MAX = Integer.MAX_VALUE;

    /** Bits that are no length: no numbers, too small, too large. */
    int[] NO_LENGTHS = {Due.bits(Float.NaN), 0x7F800001, 0xFFC00000, -1, MINUS_ZERO, Due.bits(-Float.MIN_VALUE),
        Due.bits(-1.0f), Due.bits(Float.NEGATIVE_INFINITY), THOUSAND + 1, Due.bits(1000.5f),
        Due.bits(Float.POSITIVE_INFINITY), MAX};
}
