/** The document's words for answers, and the numbers that tests of all chapters use. */
interface Words {
    int UNKNOWN = -1, OUTSIDE = -2, STATE = -3, FULL = -4, NONE = -9;
    int NULL = 1, CAST = 2, INDEX = 3, SIZE = 4;
    long LOST = Long.MIN_VALUE;
    int LOW = Integer.MIN_VALUE, HIGH = Integer.MAX_VALUE;
    /** What CORNERS are told times. */
    long ONE = 17179869184L;
}
