/** The boundary cases that the document names of BOXES and PARTS: promises 13 to 23, and chapter 2 of its terms. */
public final class BoxBoundaryTests implements Words {
    private static final int[] OWN = {0, 2, 6, 8};
    private static final int[] INNER = {1, 3, 4, 5, 7};
    private static final int[] ALL_BUT_NOUGHT_AND_ONE = {LOW, -1, 2, HIGH};
    private static final long[] NO_MORE = {};

    private static Bench withUnitBox() {
        Bench b = new Bench();
        b.ask("box", 0, 256, 0, 256);
        return b;
    }

    /** PARTS of (x - y)(x - y), which is never below nought and is cut for ever about x = y. */
    private static Bench withParts(int a, int b, int c, int d) {
        return withPartsOf(new long[] {0, 0, 1, 0, -2, 0, 1}, a, b, c, d);
    }

    private static Bench withPartsOf(long[] terms, int a, int b, int c, int d) {
        Bench bench = new Bench();
        bench.lay(terms);
        bench.ask("box", a, b, c, d);
        bench.ask("parts", 0, 0);
        return bench;
    }

    private static void dueSides(Bench b, long box, long... sides) {
        b.dueRow("side", new long[] {box}, sides);
    }

    private static void duePart(Bench b, long i, long... sidesAndState) {
        b.dueRow("partly", new long[] {i}, sidesAndState);
    }

    private static void dueCounts(Bench b, long... counts) {
        b.dueRow("open", NO_MORE, counts);
    }

    // ---- BOXES

    @Says("Terms 2: BOXES, 30 ever: by box")
    static void boxesAreThirty() {
        Bench b = new Bench();
        for (int k = 0; k < 30; k++) b.due(k, "box", k, k + 1, -k - 1, -k);
        b.due(30, "told", 1);
        b.refused(FULL, "box", 0, 1, 0, 1);
        dueSides(b, 0, 0, 1, -1, 0);
        dueSides(b, 29, 29, 30, -30, -29);
    }

    @Says("Terms 2: whole numbers -2048 .. 2048")
    static void boxesReachTo2048() {
        Bench b = new Bench();
        b.due(0, "box", -2048, 2048, -2048, 2048);
        b.due(1, "box", -2048, -2047, -2048, -2047);
        b.due(2, "box", 2047, 2048, 2047, 2048);
        for (int v : new int[] {LOW, -2049}) {
            b.refused(OUTSIDE, "box", v, 0, 0, 1);
            b.refused(OUTSIDE, "box", 0, 1, v, 0);
            b.refused(OUTSIDE, "box", v, v + 1, 0, 1);
        }
        for (int v : new int[] {2049, HIGH}) {
            b.refused(OUTSIDE, "box", 0, v, 0, 1);
            b.refused(OUTSIDE, "box", 0, 1, 0, v);
            b.refused(OUTSIDE, "box", 0, 1, v - 1, v);
        }
        b.refused(OUTSIDE, "box", LOW, HIGH, LOW, HIGH);
        dueSides(b, 0, -2048, 2048, -2048, 2048);
        dueSides(b, 1, -2048, -2047, -2048, -2047);
        dueSides(b, 2, 2047, 2048, 2047, 2048);
    }

    @Says("Terms 2: a below b, c below d")
    static void boxesRise() {
        Bench b = new Bench();
        b.refused(OUTSIDE, "box", 5, 5, 0, 1);
        b.refused(OUTSIDE, "box", 0, 1, 5, 5);
        b.refused(OUTSIDE, "box", 6, 5, 0, 1);
        b.refused(OUTSIDE, "box", 0, 1, 6, 5);
        b.refused(OUTSIDE, "box", 2048, -2048, 0, 1);
        b.refused(OUTSIDE, "box", 0, 1, HIGH, LOW);
        b.due(0, "box", 5, 6, 0, 1);
        b.due(1, "box", 0, 1, 5, 6);
    }

    @Says("Promise 13: the first that fits: OUTSIDE; FULL")
    static void boxRefusesInOrder() {
        Bench b = new Bench();
        b.fillBoxes(30);
        b.refused(OUTSIDE, "box", 0, 2049, 0, 1);
        b.refused(OUTSIDE, "box", 1, 1, 0, 1);
        b.refused(OUTSIDE, "box", 0, 1, 1, 0);
        b.refused(FULL, "box", 0, 1, 0, 1);
    }

    @Says("Terms 2: there is no such BOX")
    static void otherNumbersAreUnknown() {
        Bench b = new Bench();
        b.lay(1);
        b.fillBoxes(2);
        for (int box : new int[] {LOW, -1, 2, 30, HIGH}) {
            b.refused(UNKNOWN, "side", box, 0);
            b.refused(LOST, "corner", 0, box, 0);
            b.refused(LOST, "bound", 0, box, 0);
            b.refused(UNKNOWN, "cut", box, 0);
            b.refused(UNKNOWN, "parts", 0, box);
            b.refused(UNKNOWN, "corners", 0, box);
        }
        for (int p : new int[] {LOW, -1, 1, HIGH}) {
            b.refused(LOST, "corner", p, 0, 0);
            b.refused(LOST, "bound", p, 0, 0);
            b.refused(UNKNOWN, "parts", p, 0);
        }
        b.due(2, "side", 1, 3);
    }

    @Says("Promise 14: 0 .. 3 a, b, c, d; the first that fits: UNKNOWN; OUTSIDE")
    static void sideRefuses() {
        Bench b = new Bench();
        b.refused(UNKNOWN, "side", 0, 0);
        b.ask("box", -4, 3, -2, 1);
        dueSides(b, 0, -4, 3, -2, 1);
        for (int what : new int[] {LOW, -1, 4, HIGH}) {
            b.refused(OUTSIDE, "side", 0, what);
            b.refused(UNKNOWN, "side", 1, what);
        }
    }

    // ---- CORNERS

    @Says("Promise 15: a CORNER 3 i + j, told times 17179869184")
    static void cornerIsOneOfNine() {
        for (int k = 0; k < 9; k++) {
            Bench b = withUnitBox();
            b.lay(Bench.termsOfCorners(Bench.nineBut(k, 1, 0)));
            for (int other = 0; other < 9; other++) b.due(other == k ? ONE : 0, "corner", 0, 0, other);
        }
    }

    @Says("Promise 15: LOST: OUTSIDE")
    static void cornerRefuses() {
        Bench b = withUnitBox();
        b.lay(3);
        b.due(3 * ONE, "corner", 0, 0, 0);
        b.due(3 * ONE, "corner", 0, 0, 8);
        for (int k : new int[] {LOW, -1, 9, HIGH}) b.refused(LOST, "corner", 0, 0, k);
    }

    @Says("Terms 2: CORNERS 0, 2, 6, 8 are its values at the BOX's own four corners")
    static void ownCornersAreValues() {
        int[][] boxes = {{-2048, 2048, -2048, 2048}, {-1, 0, 0, 1}, {-2048, -2047, 2047, 2048}, {3, 9, -70, 50}};
        for (int[] at : boxes) {
            Bench b = new Bench();
            b.lay(-7, 1000, 13, -1000, 17, 999, 19, -21, 1000);
            b.ask("box", at[0], at[1], at[2], at[3]);
            for (int own = 0; own < 4; own++) {
                long value = b.ask("value", 0, at[own / 2], at[2 + own % 2]);
                b.due(4 * value, "corner", 0, 0, OWN[own]);
            }
        }
    }

    @Says("Terms 2: they are whole then: the smallest ones")
    static void cornersAreWhole() {
        Bench b = new Bench();
        b.layTerm(8, 1);
        b.layTerm(4, 1);
        b.ask("box", -1, 2, 1, 2);
        // x x: 1, -2, 4; y y: 1, 2, 4
        b.dueRow("corner", new long[] {0, 0}, 4, 8, 16, -8, -16, -32, 16, 32, 64);
        // x: -1, 1/2, 2; y: 1, 3/2, 2, in 256ths
        long q = 65536;
        b.dueRow("corner", new long[] {1, 0}, -4 * q, -6 * q, -8 * q, 2 * q, 3 * q, 4 * q, 8 * q, 12 * q, 16 * q);
    }

    @Says("Terms 2: the least and the greatest CORNERS of all")
    static void cornersAtTheirFurthest() {
        Bench b = new Bench();
        b.lay(1000, 1000, 1000, 1000, 1000, 1000, 1000, 1000, 1000);
        b.ask("add", 0, 0, -2);
        b.ask("box", -2048, 2048, -2048, 2048);
        // 1 + x + x x with x x = -64, x = 0 in the middle: -63
        long[] one = {57, -63, 73};
        for (int k = 0; k < 9; k++) {
            b.due(1000 * one[k / 3] * one[k % 3] * ONE, "corner", 0, 0, k);
            b.due(-1000 * one[k / 3] * one[k % 3] * ONE, "corner", 1, 0, k);
        }
        b.due(-1000 * 63 * 73 * ONE, "bound", 0, 0, 0);
        b.due(1000 * 73 * 73 * ONE, "bound", 0, 0, 1);
        b.due(-1000 * 73 * 73 * ONE, "bound", 1, 0, 0);
        b.due(1000 * 63 * 73 * ONE, "bound", 1, 0, 1);
    }

    @Says("Promise 16: The least of the nine CORNERS (which 0), the greatest (1)")
    static void boundIsEachOfNine() {
        for (int k = 0; k < 9; k++) {
            Bench b = withUnitBox();
            b.lay(Bench.termsOfCorners(Bench.nineBut(k, 2, 5)));
            b.lay(Bench.termsOfCorners(Bench.nineBut(k, 5, 2)));
            b.lay(Bench.termsOfCorners(Bench.nineBut(k, -5, -2)));
            for (int p = 0; p < 2; p++) {
                b.due(2 * ONE, "bound", p, 0, 0);
                b.due(5 * ONE, "bound", p, 0, 1);
            }
            b.due(-5 * ONE, "bound", 2, 0, 0);
            b.due(-2 * ONE, "bound", 2, 0, 1);
        }
    }

    @Says("Promise 16: LOST: OUTSIDE")
    static void boundRefuses() {
        Bench b = withUnitBox();
        b.lay(3);
        b.due(3 * ONE, "bound", 0, 0, 0);
        b.due(3 * ONE, "bound", 0, 0, 1);
        for (int which : ALL_BUT_NOUGHT_AND_ONE) b.refused(LOST, "bound", 0, 0, which);
    }

    // ---- cut

    @Says("Promise 17: the numbers of its halves are the next two, the lower one first")
    static void cutMakesTwo() {
        Bench b = new Bench();
        b.ask("box", -7, -5, 4, 10);
        b.due(1, "cut", 0, 0);
        b.due(3, "cut", 0, 1);
        b.due(5, "told", 1);
        dueSides(b, 0, -7, -5, 4, 10);
        dueSides(b, 1, -7, -6, 4, 10);
        dueSides(b, 2, -6, -5, 4, 10);
        dueSides(b, 3, -7, -5, 4, 7);
        dueSides(b, 4, -7, -5, 7, 10);
        b.ask("box", -2048, 2048, -2048, 2048);
        b.due(6, "cut", 5, 1);
        dueSides(b, 6, -2048, 2048, -2048, 0);
        dueSides(b, 7, -2048, 2048, 0, 2048);
    }

    @Says("Promise 17: OUTSIDE: which")
    static void cutRefusesWhich() {
        Bench b = new Bench();
        b.fillBoxes(1);
        for (int which : ALL_BUT_NOUGHT_AND_ONE) b.refused(OUTSIDE, "cut", 0, which);
    }

    @Says("Promise 17: STATE: it is odd there")
    static void cutRefusesOdd() {
        Bench b = new Bench();
        b.ask("box", 0, 1, 0, 2);
        b.ask("box", -1, 1, -2, 1);
        b.ask("box", -2048, 2047, -2047, 2048);
        b.refused(STATE, "cut", 0, 0);
        b.refused(STATE, "cut", 1, 1);
        b.refused(STATE, "cut", 2, 0);
        b.refused(STATE, "cut", 2, 1);
        b.due(3, "cut", 0, 1);
        b.due(5, "cut", 1, 0);
        dueSides(b, 3, 0, 1, 0, 1);
        dueSides(b, 6, 0, 1, -2, 1);
    }

    @Says("Promise 17: FULL: there are not two more")
    static void cutRefusesIfFull() {
        for (int told = 28; told < 31; told++) {
            Bench b = new Bench();
            b.fillBoxes(told);
            for (int which = 0; which < 2; which++) {
                if (told > 28) b.refused(FULL, "cut", 0, which);
            }
            if (told == 28) {
                b.due(28, "cut", 27, 1);
                dueSides(b, 28, 0, 2, 0, 1);
                dueSides(b, 29, 0, 2, 1, 2);
            }
            if (told == 29) b.due(29, "box", 0, 1, 0, 1);
            b.due(30, "told", 1);
            b.refused(FULL, "cut", 0, 0);
        }
    }

    @Says("Promise 17: the first that fits: UNKNOWN; OUTSIDE; STATE; FULL")
    static void cutRefusesInOrder() {
        Bench b = new Bench();
        b.ask("box", 0, 1, 0, 1);
        b.refused(UNKNOWN, "cut", 1, 2);
        b.refused(OUTSIDE, "cut", 0, 2);
        b.fillBoxes(30);
        b.refused(UNKNOWN, "cut", 30, 2);
        b.refused(UNKNOWN, "cut", 30, 0);
        b.refused(OUTSIDE, "cut", 0, -1);
        b.refused(OUTSIDE, "cut", 1, 2);
        b.refused(STATE, "cut", 0, 0);
        b.refused(STATE, "cut", 0, 1);
        b.refused(FULL, "cut", 1, 0);
    }

    // ---- PARTS

    @Says("Promise 18: PARTS become those of a BOX for a polynomial, it alone, OPEN")
    static void partsBeginAnew() {
        Bench b = withParts(-8, 8, -8, 8);
        b.ask("cover", 3);
        b.lay(-1);
        b.ask("box", 1, 2, 3, 4);
        b.due(1, "parts", 1, 1);
        dueCounts(b, 1, 1, 0, 0, 0);
        duePart(b, 0, 1, 2, 3, 4, 0);
        b.due(-ONE, "least");
        b.ask("cover", 1);
        dueCounts(b, 1, 0, 0, 0, 1);
        b.due(1, "where", 0);
        b.due(1, "parts", 0, 0);
        dueCounts(b, 1, 1, 0, 0, 0);
        duePart(b, 0, -8, 8, -8, 8, 0);
        b.dueRow("where", NO_MORE, NONE, NONE);
        b.due(3, "cover", 3);
    }

    @Says("Promise 18: UNKNOWN; what PARTS there are stay")
    static void partsRefused() {
        Bench b = withPartsOf(new long[] {1, 0, 0, 0, 0, 0, 4}, -256, 256, -256, 256);
        b.lay(-1);
        b.ask("box", 1, 2, 3, 4);
        for (int step = 0; step < 4; step++) {
            for (int other : new int[] {LOW, -1, 2, HIGH}) {
                b.refused(UNKNOWN, "parts", other, 1);
                b.refused(UNKNOWN, "parts", 1, other);
            }
            b.ask("cover", 1);
        }
        b.due(0, "proved");
        b.dueRow("proof", new long[] {0}, 2, 0, 8, 2, 0);
    }

    @Says("Terms 2: all its CORNERS are 0 or more: it is SHOWN")
    static void noughtIsShown() {
        Bench b = withUnitBox();
        b.lay();
        b.ask("parts", 0, 0);
        b.due(1, "cover", 500);
        dueCounts(b, 1, 0, 1, 0, 0);
        for (int k = 0; k < 9; k++) {
            b.lay(Bench.termsOfCorners(Bench.nineBut(k, 0, 1)));
            b.ask("parts", k + 1, 0);
            b.due(1, "cover", 1);
            duePart(b, 0, 0, 256, 0, 256, 1);
        }
    }

    @Says("Terms 2: one CORNER below 0 that is none of the BOX's own: its two halves")
    static void innerCornersCut() {
        for (int k : INNER) {
            Bench b = withUnitBox();
            b.lay(Bench.termsOfCorners(Bench.nineBut(k, -1, 0)));
            b.ask("parts", 0, 0);
            b.due(1, "cover", 1);
            dueCounts(b, 2, 2, 0, 0, 0);
            duePart(b, 0, 0, 128, 0, 256, 0);
            duePart(b, 1, 128, 256, 0, 256, 0);
            b.dueRow("where", NO_MORE, NONE, NONE);
        }
    }

    @Says("Terms 2: one of CORNERS 0, 2, 6, 8 is below 0: it is BELOW there (the first of these)")
    static void ownCornersAreBelow() {
        for (int low = 1; low < 16; low++) {
            Bench b = withUnitBox();
            long[] nine = Bench.nineBut(4, -1, -1);
            int first = -1;
            for (int own = 3; own >= 0; own--) {
                boolean isBelow = (low >> own & 1) != 0;
                nine[OWN[own]] = isBelow ? -1 : 0;
                if (isBelow) first = own;
            }
            b.lay(Bench.termsOfCorners(nine));
            b.ask("parts", 0, 0);
            b.due(1, "cover", 500);
            dueCounts(b, 1, 0, 0, 0, 1);
            duePart(b, 0, 0, 256, 0, 256, 3);
            b.due(256 * (first / 2), "where", 0);
            b.due(256 * (first % 2), "where", 1);
        }
    }

    @Says("Terms 2: CORNERS just below 0")
    static void smallestBelow() {
        Bench b = new Bench();
        b.layTerm(8, 1);
        b.ask("box", -1, 1, 0, 1);
        b.ask("parts", 0, 0);
        b.due(-4, "least");
        b.due(3, "cover", 500);
        dueCounts(b, 2, 0, 2, 0, 0);
        duePart(b, 0, -1, 0, 0, 1, 1);
        duePart(b, 1, 0, 1, 0, 1, 1);
        b.layTerm(8, -1);
        b.ask("box", 0, 1, 0, 1);
        b.ask("parts", 1, 1);
        b.due(1, "cover", 500);
        b.dueRow("where", NO_MORE, 1, 1);
    }

    @Says("Terms 2: if both b - a and d - c are odd, it is STUCK instead")
    static void oddBothWaysIsStuck() {
        int[][] boxes = {{-1, 2, -1, 2}, {-1, 2, -2, 1}, {-2048, 2047, -2047, 2048}};
        for (int[] at : boxes) {
            Bench b = withParts(at[0], at[1], at[2], at[3]);
            b.due(1, "cover", 500);
            dueCounts(b, 1, 0, 0, 1, 0);
            duePart(b, 0, at[0], at[1], at[2], at[3], 2);
            b.due(0, "cover", 500);
            b.dueRow("where", NO_MORE, NONE, NONE);
        }
    }

    @Says("Terms 2: an odd BOX that is SHOWN or BELOW is not STUCK")
    static void oddIsStuckLast() {
        Bench b = withPartsOf(new long[] {0, 0, 0, 1}, 0, 1, 0, 1);
        b.due(1, "cover", 500);
        dueCounts(b, 1, 0, 1, 0, 0);
        b.lay(0, 0, 0, -1);
        b.ask("parts", 1, 0);
        b.due(1, "cover", 500);
        dueCounts(b, 1, 0, 0, 0, 1);
        b.dueRow("where", NO_MORE, 1, 0);
    }

    private static void dueCut(int a, int b, int c, int d, boolean byX) {
        Bench bench = withParts(a, b, c, d);
        bench.due(1, "cover", 1);
        dueCounts(bench, 2, 2, 0, 0, 0);
        int x = (a + b) / 2;
        int y = (c + d) / 2;
        duePart(bench, 0, a, byX ? x : b, c, byX ? d : y, 0);
        duePart(bench, 1, byX ? x : a, b, byX ? c : y, d, 0);
    }

    @Says("Terms 2: cut in the middle of x, if b - a is even, and d - c is odd")
    static void cutByXIfHeightIsOdd() {
        dueCut(-4, 4, -4, 5, true);
        dueCut(-2, 2, -3, 2, true);
        dueCut(-1, 1, -1024, 1023, true);
        dueCut(-4, 4, -1, 2, true);
    }

    @Says("Terms 2: cut in the middle of x, if d - c is not above b - a")
    static void cutByXIfNotHigher() {
        dueCut(-4, 4, -4, 4, true);
        dueCut(-4, 6, -4, 4, true);
        dueCut(-1, 1, -1, 1, true);
        dueCut(-2048, 2048, -2048, 2048, true);
    }

    @Says("Terms 2: cut in the middle of y else")
    static void cutByYElse() {
        dueCut(-4, 4, -4, 6, false);
        dueCut(-4, 5, -4, 4, false);
        dueCut(-4, 5, -2, 2, false);
        dueCut(-1024, 1023, -1, 1, false);
    }

    @Says("Terms 2: in its place come its two halves, the lower one first; a STEP takes the first one that is OPEN")
    static void halvesComeInPlace() {
        Bench b = withParts(-8, 8, -8, 8);
        b.due(2, "cover", 2);
        duePart(b, 0, -8, 0, -8, 0, 0);
        duePart(b, 1, -8, 0, 0, 8, 0);
        duePart(b, 2, 0, 8, -8, 8, 0);
        b.due(1, "cover", 1);
        dueCounts(b, 4, 4, 0, 0, 0);
        duePart(b, 0, -8, -4, -8, 0, 0);
        duePart(b, 1, -4, 0, -8, 0, 0);
        duePart(b, 2, -8, 0, 0, 8, 0);
        duePart(b, 3, 0, 8, -8, 8, 0);
        b.ask("cover", 2);
        duePart(b, 0, -8, -6, -8, -4, 0);
        b.due(1, "cover", 1);
        duePart(b, 0, -8, -6, -8, -6, 0);
    }

    @Says("Terms 2: what is SHOWN or STUCK is passed over")
    static void stepsPassOver() {
        Bench b = withParts(0, 2, 0, 2);
        // cut by x, the left one by y: then 0 1 0 1 is STUCK
        b.due(3, "cover", 3);
        duePart(b, 0, 0, 1, 0, 1, 2);
        duePart(b, 1, 0, 1, 1, 2, 0);
        duePart(b, 2, 1, 2, 0, 2, 0);
        b.due(1, "cover", 1);
        duePart(b, 0, 0, 1, 0, 1, 2);
        duePart(b, 1, 0, 1, 1, 2, 1);
        b.due(3, "cover", 500);
        dueCounts(b, 4, 0, 2, 2, 0);
        duePart(b, 2, 1, 2, 0, 1, 1);
        duePart(b, 3, 1, 2, 1, 2, 2);
    }

    // ---- cover

    @Says("Promise 19: OUTSIDE: n is not 0 .. 500")
    static void coverRefusesNumbers() {
        Bench b = withParts(-8, 8, -8, 8);
        for (int n : new int[] {LOW, -1, 501, HIGH}) b.refused(OUTSIDE, "cover", n);
        b.due(0, "cover", 0);
        dueCounts(b, 1, 1, 0, 0, 0);
        b.due(39, "cover", 39);
    }

    @Says("Promise 19: 500 is taken")
    static void coverTakesFiveHundred() {
        Bench b = withParts(0, 2, 0, 2);
        b.due(7, "cover", 500);
    }

    @Says("Promise 19: STATE: no PARTS")
    static void coverRefusesWithoutParts() {
        Bench b = new Bench();
        b.lay(1);
        b.fillBoxes(1);
        for (int n : new int[] {0, 1, 500}) b.refused(STATE, "cover", n);
        for (int n : new int[] {LOW, -1, 501, HIGH}) b.refused(OUTSIDE, "cover", n);
    }

    @Says("Promise 19: n STEPS at most, as long as one is OPEN: how many were done")
    static void coverCountsItsSteps() {
        Bench b = withParts(0, 2, 0, 2);
        b.due(5, "cover", 5);
        b.due(2, "cover", 3);
        b.due(0, "cover", 1);
        b.due(0, "cover", 500);
        Bench exact = withParts(0, 2, 0, 2);
        exact.due(7, "cover", 7);
        exact.due(0, "open", 1);
    }

    @Says("Promise 19: and none is BELOW")
    static void coverEndsWhereOneIsBelow() {
        // 16 x x - 1: cut by x, then the left half is BELOW where x is 0
        Bench b = withPartsOf(new long[] {-1, 0, 0, 0, 0, 0, 16}, -256, 256, 0, 256);
        b.due(2, "cover", 500);
        dueCounts(b, 2, 1, 0, 0, 1);
        duePart(b, 0, -256, 0, 0, 256, 3);
        duePart(b, 1, 0, 256, 0, 256, 0);
        b.dueRow("where", NO_MORE, 0, 0);
        b.due(0, "cover", 1);
        b.due(0, "cover", 500);
        dueCounts(b, 2, 1, 0, 0, 1);
    }

    @Says("Promise 19: FULL: ahead of a STEP that would make more than 40 PARTS: 40 are taken")
    static void coverTakesForty() {
        // (4 y - 3)(4 y - 3) on this BOX: 39 cuts, 40 SHOWN
        Bench b = withPartsOf(new long[] {9, -24, 16}, -512, 512, 0, 256);
        b.due(79, "cover", 500);
        dueCounts(b, 40, 0, 40, 0, 0);
        b.due(0, "cover", 500);
        b.due(0, "proved");
        b.due(160, "proof", 0, 2);
        b.due(40, "proof", 0, 3);
        b.due(1, "check", 0);
        b.ask("forge", 0, 159, 7);
        b.due(-59, "check", 0);
    }

    @Says("Promise 19: FULL: what was done stays; -4 only where none was done")
    static void coverIsFull() {
        Bench b = withPartsOf(new long[] {16, 16, 4, -16, -8, 0, 4}, 0, 768, -512, 512);
        b.due(66, "cover", 500);
        dueCounts(b, 40, 13, 15, 12, 0);
        b.refused(FULL, "cover", 1);
        b.refused(FULL, "cover", 500);
        b.refused(OUTSIDE, "cover", 501);
        b.due(0, "cover", 0);
        b.refused(STATE, "proved");
        b.due(1, "parts", 0, 0);
        b.due(65, "cover", 65);
        b.due(1, "cover", 500);
        b.refused(FULL, "cover", 500);
    }

    @Says("Promise 19: FULL: STEPS that make no more PARTS go on at 40")
    static void coverGoesOnAtForty() {
        Bench stuck = withPartsOf(new long[] {0, 0, 4, 0, -8, 0, 4}, 0, 20, 0, 256);
        stuck.due(79, "cover", 500);
        dueCounts(stuck, 40, 0, 20, 20, 0);
        stuck.due(0, "cover", 500);
        Bench below = withPartsOf(new long[] {0, 0, 0, 0, 0, -3, 3}, -16, 16, 0, 32);
        below.due(71, "cover", 71);
        dueCounts(below, 40, 8, 16, 16, 0);
        below.due(1, "cover", 500);
        dueCounts(below, 40, 7, 16, 16, 1);
        below.due(0, "cover", 500);
    }

    // ---- what is told of PARTS

    @Says("Promise 20: How many PARTS: 0 all, 1 OPEN, 2 SHOWN, 3 STUCK, 4 BELOW. OUTSIDE")
    static void openRefuses() {
        Bench none = new Bench();
        Bench some = withParts(0, 2, 0, 2);
        some.ask("cover", 4);
        for (int what : new int[] {LOW, -1, 5, HIGH}) {
            none.refused(OUTSIDE, "open", what);
            some.refused(OUTSIDE, "open", what);
        }
        dueCounts(none, 0, 0, 0, 0, 0);
        dueCounts(some, 3, 1, 1, 1, 0);
    }

    @Says("Promise 21: the first that fits: UNKNOWN; OUTSIDE")
    static void partlyRefuses() {
        Bench b = withParts(0, 2, 0, 2);
        b.ask("cover", 4);
        for (int what : new int[] {LOW, -1, 5, HIGH}) {
            b.refused(OUTSIDE, "partly", 0, what);
            b.refused(OUTSIDE, "partly", 2, what);
            b.refused(UNKNOWN, "partly", 3, what);
        }
        for (int i : new int[] {LOW, -1, 3, 40, HIGH}) b.refused(UNKNOWN, "partly", i, 0);
        duePart(b, 0, 0, 1, 0, 1, 2);
        duePart(b, 1, 0, 1, 1, 2, 1);
        duePart(b, 2, 1, 2, 0, 2, 0);
    }

    @Says("Promise 21: PART i of 40")
    static void partlyOfTheLast() {
        Bench b = withPartsOf(new long[] {9, -24, 16}, -512, 512, 0, 256);
        b.ask("cover", 500);
        b.due(512, "partly", 39, 1);
        b.due(256, "partly", 39, 3);
        b.due(1, "partly", 39, 4);
        b.refused(UNKNOWN, "partly", 40, 0);
        b.ask("parts", 0, 0);
        b.refused(UNKNOWN, "partly", 1, 0);
        duePart(b, 0, -512, 512, 0, 256, 0);
    }

    @Says("Promise 22: NONE: no PART is BELOW. OUTSIDE")
    static void whereRefuses() {
        Bench none = new Bench();
        Bench below = withPartsOf(new long[] {-1}, -3, 5, -7, 9);
        below.dueRow("where", NO_MORE, NONE, NONE);
        below.ask("cover", 1);
        for (int what : ALL_BUT_NOUGHT_AND_ONE) {
            none.refused(OUTSIDE, "where", what);
            below.refused(OUTSIDE, "where", what);
        }
        none.dueRow("where", NO_MORE, NONE, NONE);
        below.dueRow("where", NO_MORE, -3, -7);
    }

    @Says("Promise 22: x, y in 256ths: each corner of the BOX")
    static void whereIsACorner() {
        for (int own = 0; own < 4; own++) {
            int x = own / 2 == 0 ? 1 : -1;
            int y = own % 2 == 0 ? 1 : -1;
            // 5 + 4 x + 2 y is below 0 at one corner alone, x from -1 to 1, y from -2 to 2
            Bench b = withPartsOf(new long[] {5, 2 * y, 0, 4 * x}, -256, 256, -512, 512);
            b.ask("cover", 1);
            b.dueRow("where", NO_MORE, -256 * x, -512 * y);
        }
    }

    @Says("Promise 23: The least of all CORNERS of all PARTS")
    static void leastIsOfAllCorners() {
        for (int k = 0; k < 9; k++) {
            Bench b = withUnitBox();
            b.lay(Bench.termsOfCorners(Bench.nineBut(k, 2, 5)));
            b.ask("parts", 0, 0);
            b.due(2 * ONE, "least");
        }
    }

    @Says("Promise 23: of all PARTS: the first and the last one; SHOWN, STUCK, BELOW and OPEN ones")
    static void leastIsOfAllParts() {
        // 8 x x + 2 x + 1, then - 2 x: on -1 .. 1 -7 in the middle; of both halves 0 and 1
        for (int sign = -1; sign < 2; sign += 2) {
            Bench b = withPartsOf(new long[] {1, 0, 0, 2 * sign, 0, 0, 8}, -256, 256, 0, 256);
            b.due(-7 * ONE, "least");
            for (int k = 0; k < 3; k++) {
                b.due(1, "cover", 1);
                b.due(0, "least");
            }
            dueCounts(b, 2, 0, 2, 0, 0);
        }
        Bench stuck = withParts(0, 2, 0, 2);
        stuck.ask("cover", 500);
        stuck.due(-131072, "least");
        Bench below = withPartsOf(new long[] {-1, 0, 0, 0, 0, 0, 16}, -256, 256, 0, 256);
        below.due(-17 * ONE, "least");
        below.ask("cover", 500);
        below.due(-ONE, "least");
    }

    @Says("Promise 23: LOST: no PARTS")
    static void leastRefuses() {
        Bench b = withUnitBox();
        b.lay(-1000);
        b.refused(LOST, "least");
        b.ask("parts", 0, 0);
        b.due(-1000 * ONE, "least");
    }

    public static void main(String[] args) throws IllegalAccessException {
        Sentences.runAll(BoxBoundaryTests.class);
    }
}
