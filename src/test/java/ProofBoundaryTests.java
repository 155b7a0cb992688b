import java.util.Arrays;

/** The boundary cases that the document names of THE FORM and PROOFS: promises 24 to 38, chapters 3, 4 of its terms. */
public final class ProofBoundaryTests implements Words {
    private static final int[] OTHER_TERMS = {5, 7, 8};
    private static final int[] ALL_BUT_NOUGHT_TO_TWO = {LOW, -1, 3, HIGH};
    private static final int[] ALL_BUT_NOUGHT_TO_FOUR = {LOW, -1, 5, HIGH};
    private static final int MOST_FORGED = 1000000000;
    private static final int SQUARES = 0, CORNERS = 1, PARTS = 2, SPAN = 3;
    private static final long[] NO_MORE = {};

    /** PROOFS 0 .. 3 by kind: SQUARES of 10 numbers, CORNERS, PARTS of 8 numbers, SPAN of 9. */
    private static Bench withAllKinds() {
        Bench b = new Bench();
        b.lay(5, 0, 0, 0, 0, 0, 4);
        b.lay(5, 2, 1, 4, 2, 0, -1);
        b.ask("box", 0, 256, 0, 256);
        b.ask("box", -512, 512, -256, 256);
        b.ask("squares", 0);
        b.ask("corners", 0, 0);
        b.ask("parts", 0, 1);
        b.ask("cover", 3);
        b.ask("proved");
        b.ask("span", 1, 2, 1, -256, 512);
        return b;
    }

    private static void dueNumbers(Bench b, long q, long... numbers) {
        b.due(numbers.length, "proof", q, 2);
        b.dueRow("number", new long[] {q}, numbers);
        b.refused(LOST, "number", q, numbers.length);
    }

    /** A new object with these TERMS as polynomial 0. */
    private static Bench with(long... terms) {
        Bench b = new Bench();
        b.lay(terms);
        return b;
    }

    // ---- THE FORM

    @Says("Terms 3: THE FORM of a polynomial of no TERM but 0, 1, 2, 3, 4, 6")
    static void formHasNoOtherTerm() {
        for (int t = 0; t < 9; t++) {
            boolean isOther = Arrays.stream(OTHER_TERMS).anyMatch(Integer.valueOf(t)::equals);
            for (int v = -1; v < 2; v += 2) {
                Bench b = new Bench();
                b.layTerm(t, v);
                for (int k = 0; k < 9; k++) {
                    if (isOther) b.refused(LOST, "form", 0, k / 3, k % 3);
                }
                if (isOther) b.refused(STATE, "squares", 0);
                else b.due(t == 6 ? 2 * v : 0, "form", 0, 0, 0);
            }
        }
    }

    @Says("Promise 24: A number of THE FORM, row r, column c. OUTSIDE")
    static void formRefuses() {
        Bench b = with(1000, -999, -1000, 998, -997, 0, 1000);
        b.dueRow("form", new long[] {0, 0}, 2000, -997, 998);
        b.dueRow("form", new long[] {0, 1}, -997, -2000, -999);
        b.dueRow("form", new long[] {0, 2}, 998, -999, 2000);
        for (int v : ALL_BUT_NOUGHT_TO_TWO) {
            b.refused(LOST, "form", 0, v, 0);
            b.refused(LOST, "form", 0, 0, v);
            b.refused(LOST, "form", 0, 2, v);
        }
        for (int p : new int[] {LOW, -1, 1, HIGH}) b.refused(LOST, "form", p, 0, 0);
    }

    // ---- SQUARES

    @Says("Terms 3: If d is 0, nothing: no SQUARES of nought")
    static void noughtHasNoSquares() {
        Bench b = new Bench();
        b.lay();
        b.due(0, "squares", 0);
        dueNumbers(b, 0);
        b.dueRow("proof", new long[] {0}, SQUARES, 0, 0, 0, NONE);
        b.refused(UNKNOWN, "forge", 0, 0, 1);
        b.due(1, "check", 0);
        b.due(0, "tell", 0);
        b.due(100, "cost", 0);
    }

    @Says("Terms 3: If d is 0, nothing: in each row")
    static void rowsOfNoughtArePassedOver() {
        Bench first = with(2, 1, 1);
        first.due(0, "squares", 0);
        dueNumbers(first, 0, 1, 4, 0, 2, 1, 1, 28, 0, 0, 7);
        Bench middle = with(1, 0, 0, 1, 0, 0, 1);
        middle.due(0, "squares", 0);
        dueNumbers(middle, 0, 1, 4, 2, 0, 1, 1, 12, 0, 0, 3);
        Bench last = with(0, 0, 1, 0, 1, 0, 1);
        last.due(0, "squares", 0);
        dueNumbers(last, 0, 1, 4, 2, 1, 0, 1, 12, 0, 3, 0);
        Bench firstTwo = with(3);
        firstTwo.due(0, "squares", 0);
        dueNumbers(firstTwo, 0, 1, 12, 0, 0, 6);
        for (Bench b : new Bench[] {first, middle, last, firstTwo}) b.due(1, "check", 0);
    }

    @Says("Terms 3: If d is below 0: there are none")
    static void belowNoughtHasNoSquares() {
        long[][] none = {{0, 0, 0, 0, 0, 0, -1}, {1, 0, 1, 0, 0, 0, -1}, {0, 0, -1}, {1, 0, -1, 0, 0, 0, 1}, {-1},
            {-1, 0, 1, 0, 0, 0, 1}, {-1, 0, 0, 0, 0, 0, 1}, {0, 0, 1, 0, 3, 0, 2}, {0, 0, 1, 1, 0, 0, 1}, {0, 1, 1}};
        for (long[] terms : none) with(terms).refused(NONE, "squares", 0);
    }

    @Says("Terms 3: d is 0 and another one of that row is not: there are none")
    static void rowsThatBeginWithNought() {
        long[][] none = {{1, 0, 1, 0, 1}, {1, 0, 1, 0, -1}, {1, 0, 1, 1}, {1, 0, 1, -1}, {1, 1}, {1, -1},
            {1, 1, 0, 0, 0, 0, 1}, {9, 0, 1, 1, 2, 0, 1}};
        for (long[] terms : none) with(terms).refused(NONE, "squares", 0);
        Bench b = with(1, 1, 1, 1, 2, 0, 1);
        b.due(0, "squares", 0);
        dueNumbers(b, 0, 1, 4, 2, 2, 1, 1, 12, 0, 0, 3);
        b.due(1, "check", 0);
    }

    @Says("Terms 3: d is below 0, 0 and above 0 behind a SQUARE")
    static void squaresAtTheEdge() {
        for (int d = -1; d < 2; d++) {
            // x x + 2 x y + (1 + d) y y
            Bench b = with(0, 0, 1 + d, 0, 2, 0, 1);
            if (d < 0) b.refused(NONE, "squares", 0);
            else b.due(0, "squares", 0);
            if (d >= 0) b.due(1 + d, "proof", 0, 3);
            // x x + y y + 2 x + 2 y + 2 + d
            Bench c = with(2 + d, 2, 1, 2, 0, 0, 1);
            if (d < 0) c.refused(NONE, "squares", 0);
            else c.due(0, "squares", 0);
            if (d >= 0) c.due(2 + d, "proof", 0, 3);
        }
    }

    @Says("Terms 3: its WEIGHT is 1 by twice p d: the greatest ones")
    static void greatestSquares() {
        Bench b = with(1000, 0, 1000, 0, 0, 0, 1000);
        b.due(0, "squares", 0);
        dueNumbers(b, 0, 1, 4000, 2000, 0, 0, 1, 16000000000L, 0, 4000000, 0, 1, 64000000000000000L, 0, 0, 8000000000L);
        b.due(1, "check", 0);
        Bench c = with(1000, -1000, 1000, -1000, 1000, 0, 1000);
        c.due(0, "squares", 0);
        dueNumbers(c, 0, 1, 4000, 2000, 1000, -1000, 1, 12000000000L, 0, 3000000, -1000000,
            1, 24000000000000000L, 0, 0, 4000000000L);
        c.due(1, "check", 0);
    }

    @Says("Promise 25: the first that fits: UNKNOWN; STATE; NONE; FULL")
    static void squaresRefusesInOrder() {
        Bench b = with(1);
        b.lay(0, 0, 0, 0, 0, 1, -1);
        b.lay(-1);
        for (int p : new int[] {LOW, -1, 3, HIGH}) b.refused(UNKNOWN, "squares", p);
        b.refused(STATE, "squares", 1);
        b.refused(NONE, "squares", 2);
        b.fillProofs(40, 0);
        b.refused(UNKNOWN, "squares", 3);
        b.refused(STATE, "squares", 1);
        b.refused(NONE, "squares", 2);
        b.refused(FULL, "squares", 0);
    }

    // ---- PROOFS

    @Says("Terms 4: PROOFS, 40 ever: the fortieth by each kind")
    static void proofsAreForty() {
        String[] names = {"squares", "corners", "proved", "span"};
        long[][] given = {{0}, {0, 0}, {}, {1, 2, 1, -256, 512}};
        for (int kind = 0; kind < 4; kind++) {
            Bench b = withAllKinds();
            b.fillProofs(39, 0);
            b.due(39, names[kind], given[kind]);
            b.due(40, "told", 2);
            b.due(kind, "proof", 39, 0);
            b.due(1, "check", 39);
            for (int other = 0; other < 4; other++) b.refused(FULL, names[other], given[other]);
        }
    }

    @Says("Terms 4: there is no such PROOF")
    static void otherNumbersAreUnknown() {
        Bench b = withAllKinds();
        for (int q : new int[] {LOW, -1, 4, 40, HIGH}) {
            b.refused(UNKNOWN, "proof", q, 0);
            b.refused(LOST, "number", q, 0);
            b.refused(UNKNOWN, "forge", q, 0, 1);
            b.refused(UNKNOWN, "check", q);
            b.refused(UNKNOWN, "as", q, 4);
            b.refused(UNKNOWN, "tell", q);
            b.refused(UNKNOWN, "cost", q);
        }
    }

    /** Of calls that take a PROOF alone: none, four, as many as there may be. */
    private static void dueUnknown(String name) {
        new Bench().refused(UNKNOWN, name, 0);
        Bench four = withAllKinds();
        Bench full = full();
        for (int q : new int[] {LOW, -1, 4, HIGH}) four.refused(UNKNOWN, name, q);
        for (int q : new int[] {LOW, -1, 40, HIGH}) full.refused(UNKNOWN, name, q);
        Sentences.holds(name + "(3) is known", four.ask(name, 3) > 0 ? 1 : 0, 1);
        Sentences.holds(name + "(39) is known", full.ask(name, 39) > 0 ? 1 : 0, 1);
    }

    @Says("Promise 32: UNKNOWN")
    static void checkRefuses() {
        dueUnknown("check");
    }

    @Says("Promise 34: UNKNOWN")
    static void tellRefuses() {
        dueUnknown("tell");
    }

    @Says("Promise 35: UNKNOWN")
    static void costRefuses() {
        dueUnknown("cost");
    }

    @Says("Promise 26: NONE: one is below 0")
    static void cornersRefusesBelow() {
        for (int k = 0; k < 9; k++) {
            Bench b = with(Bench.termsOfCorners(Bench.nineBut(k, -1, 0)));
            b.lay(Bench.termsOfCorners(Bench.nineBut(k, 0, 1)));
            b.ask("box", 0, 256, 0, 256);
            b.refused(NONE, "corners", 0, 0);
            b.due(0, "corners", 1, 0);
            for (int i = 0; i < 9; i++) b.due(i == k ? 0 : ONE, "number", 0, i);
            b.refused(LOST, "number", 0, 9);
        }
    }

    @Says("Promise 26: NONE: one is just below 0")
    static void cornersRefusesJustBelow() {
        Bench b = new Bench();
        b.layTerm(8, 1);
        b.ask("box", -1, 1, 0, 1);
        b.ask("box", 0, 1, 0, 1);
        b.due(-4, "bound", 0, 0, 0);
        b.refused(NONE, "corners", 0, 0);
        b.due(0, "corners", 0, 1);
    }

    @Says("Promise 26: a PROOF by CORNERS that are all 0")
    static void cornersOfNought() {
        Bench b = new Bench();
        b.lay();
        b.ask("box", -2048, 2048, -2048, 2048);
        b.due(0, "corners", 0, 0);
        dueNumbers(b, 0, 0, 0, 0, 0, 0, 0, 0, 0, 0);
        b.due(1, "check", 0);
    }

    @Says("Promise 26: the first that fits: UNKNOWN; NONE; FULL")
    static void cornersRefusesInOrder() {
        Bench b = with(1);
        b.lay(-1);
        b.ask("box", 0, 256, 0, 256);
        for (int k : new int[] {LOW, -1, HIGH}) {
            b.refused(UNKNOWN, "corners", k, 0);
            b.refused(UNKNOWN, "corners", 1, k);
        }
        b.refused(UNKNOWN, "corners", 2, 0);
        b.refused(UNKNOWN, "corners", 1, 1);
        b.fillProofs(40, 0);
        b.refused(UNKNOWN, "corners", 2, 0);
        b.refused(UNKNOWN, "corners", 0, 1);
        b.refused(NONE, "corners", 1, 0);
        b.refused(FULL, "corners", 0, 0);
    }

    @Says("Promise 27: STATE: no PARTS; one is not SHOWN")
    static void provedRefuses() {
        Bench b = with(1, 0, 0, 0, 0, 0, 4);
        b.lay(0, 0, 1, 0, -2, 0, 1);
        b.lay(-1);
        b.ask("box", -256, 256, -256, 256);
        b.ask("box", 0, 2, 0, 2);
        b.refused(STATE, "proved");
        b.ask("parts", 0, 0);
        b.refused(STATE, "proved");
        for (int step = 0; step < 2; step++) {
            b.ask("cover", 1);
            b.refused(STATE, "proved");
        }
        b.ask("cover", 1);
        b.due(0, "proved");
        b.due(1, "proved");
        b.ask("parts", 1, 1);
        b.ask("cover", 500);
        b.dueRow("open", NO_MORE, 4, 0, 2, 2, 0);
        b.refused(STATE, "proved");
        b.ask("parts", 2, 0);
        b.ask("cover", 1);
        b.dueRow("open", NO_MORE, 1, 0, 0, 0, 1);
        b.refused(STATE, "proved");
    }

    @Says("Promise 27: the first that fits: STATE; FULL")
    static void provedRefusesInOrder() {
        Bench b = with(1);
        b.ask("box", 0, 1, 0, 1);
        b.fillProofs(40, 0);
        b.refused(STATE, "proved");
        b.ask("parts", 0, 0);
        b.refused(STATE, "proved");
        b.ask("cover", 1);
        b.refused(FULL, "proved");
    }

    @Says("Terms 4: a BOX, and all its PARTS as they were")
    static void provedKeepsThePartsAsTheyWere() {
        Bench b = withAllKinds();
        b.ask("parts", 0, 0);
        b.ask("cut", 1, 0);
        dueNumbers(b, 2, -512, 0, -256, 256, 0, 512, -256, 256);
        b.dueRow("proof", new long[] {2}, PARTS, 0, 8, 2, 1);
        b.due(1, "check", 2);
        b.ask("cover", 1);
        b.due(4, "proved");
        dueNumbers(b, 4, 0, 256, 0, 256);
        b.dueRow("proof", new long[] {4}, PARTS, 0, 4, 1, 0);
        b.ask("forge", 4, 0, 9);
        b.due(0, "partly", 0, 0);
        b.due(0, "side", 0, 0);
    }

    @Says("Terms 4: of a POLYNOMIAL, on a BOX: the first and the last of thirty")
    static void proofsKeepTheirOwn() {
        Bench b = with(2);
        b.fillPolynomials(29);
        b.lay(0, 1);
        b.ask("box", 0, 256, 0, 256);
        b.fillBoxes(29);
        b.ask("box", 256, 512, 256, 512);
        for (int last = 0; last < 30; last += 29) {
            b.ask("corners", last, last);
            b.ask("parts", last, last);
            b.ask("cover", 1);
            b.ask("proved");
            b.ask("squares", 0);
        }
        dueNumbers(b, 3, ONE, 3 * ONE / 2, 2 * ONE, ONE, 3 * ONE / 2, 2 * ONE, ONE, 3 * ONE / 2, 2 * ONE);
        for (int q = 0; q < 6; q++) b.due(1, "check", q);
        b.dueRow("proof", new long[] {0}, CORNERS, 0, 9, 0, 0);
        b.dueRow("proof", new long[] {1}, PARTS, 0, 4, 1, 0);
        b.dueRow("proof", new long[] {3}, CORNERS, 29, 9, 0, 29);
        b.dueRow("proof", new long[] {4}, PARTS, 29, 4, 1, 29);
    }

    // ---- span

    /** m by n of (x - a)(b - x) and nothing else, a and b being told in whole ones. */
    private static long[] spanTerms(long weight, long a, long b) {
        return new long[] {-weight * a * b, 0, 0, weight * (a + b), 0, 0, -weight};
    }

    @Says("Promise 28: OUTSIDE: m, n are not 1 .. 1000")
    static void spanRefusesWeights() {
        Bench b = with(spanTerms(1, 0, 1));
        b.lay(spanTerms(1000, 0, 1));
        for (int v : new int[] {LOW, -1, 0, 1001, HIGH}) {
            b.refused(OUTSIDE, "span", 0, v, 1, 0, 256);
            b.refused(OUTSIDE, "span", 0, 1, v, 0, 256);
            b.refused(OUTSIDE, "span", 0, v, v, 0, 256);
        }
        b.due(0, "span", 0, 1, 1, 0, 256);
        b.due(1, "span", 0, 1000, 1000, 0, 256);
        b.due(2, "span", 1, 1000, 1, 0, 256);
        b.refused(STATE, "span", 0, 1, 1000, 0, 256);
        dueNumbers(b, 0, 1, 1, 0, 256);
        dueNumbers(b, 1, 1000, 1000, 0, 256);
        dueNumbers(b, 2, 1000, 1, 0, 256);
        for (int q = 0; q < 3; q++) b.due(1, "check", q);
    }

    @Says("Promise 28: OUTSIDE: a, b not as of a BOX")
    static void spanRefusesEnds() {
        Bench b = with(spanTerms(1, -8, 8));
        b.lay(spanTerms(1, 7, 8));
        b.lay(spanTerms(1, -8, -7));
        for (int v : new int[] {LOW, -2049, 2049, HIGH}) {
            b.refused(OUTSIDE, "span", 0, 1, 1, v, 2048);
            b.refused(OUTSIDE, "span", 0, 1, 1, -2048, v);
        }
        b.refused(OUTSIDE, "span", 0, 1, 1, LOW, HIGH);
        b.refused(OUTSIDE, "span", 0, 1, 1, 256, 256);
        b.refused(OUTSIDE, "span", 0, 1, 1, 512, 256);
        b.refused(OUTSIDE, "span", 0, 1, 1, 2048, -2048);
        b.refused(STATE, "span", 0, 1, 1, 255, 256);
        b.due(0, "span", 0, 1, 1, -2048, 2048);
        b.due(1, "span", 1, 1, 1, 1792, 2048);
        b.due(2, "span", 2, 1, 1, -2048, -1792);
        dueNumbers(b, 0, 1, 1, -2048, 2048);
        for (int q = 0; q < 3; q++) b.due(1, "check", q);
    }

    @Says("Promise 28: STATE: it has another TERM")
    static void spanRefusesOtherTerms() {
        for (int t : OTHER_TERMS) {
            long[] terms = Arrays.copyOf(spanTerms(1, 0, 1), 9);
            terms[t] = 1;
            Bench b = with(terms);
            b.refused(STATE, "span", 0, 1, 1, 0, 256);
        }
    }

    @Says("Promise 28: STATE: a COEFFICIENT would not be whole")
    static void spanRefusesParts() {
        Bench b = with(1000, 0, 0, 0, 0, 0, 1000);
        b.refused(STATE, "span", 0, 1, 2, -512, 512);
        b.refused(STATE, "span", 0, 999, 1000, -256, 256);
        b.refused(STATE, "span", 0, 3, 2, -512, 512);
        b.lay(4, 0, 0, 0, 0, 0, 4);
        b.refused(STATE, "span", 1, 1, 1, 0, 128);
        b.refused(STATE, "span", 1, 1, 1, 0, 257);
        b.refused(STATE, "span", 1, 2, 1, 0, 64);
        b.refused(STATE, "span", 1, 1, 1, -128, 128);
        b.refused(STATE, "span", 1, 3, 1, -128, 128);
        b.refused(STATE, "span", 1, 1, 1, -1, 1);
        b.refused(STATE, "span", 1, 4, 2, -128, 128);
        b.due(0, "span", 1, 2, 1, 0, 128);
        b.due(1, "span", 1, 4, 1, -128, 128);
        b.due(2, "span", 1, 2, 2, -256, 256);
        b.due(3, "span", 1, 8, 2, -128, 128);
        for (int q = 0; q < 4; q++) b.due(1, "check", q);
    }

    private static void dueSpanAtTheEdge(long[] taken, long[] refused, long want, int a, int b) {
        Bench bench = with(taken);
        bench.lay(refused);
        bench.due(want, "span", 0, 1, 1, a, b);
        bench.refused(STATE, "span", 1, 1, 1, a, b);
        if (want >= 0) bench.due(1, "check", want);
    }

    @Says("Promise 28: STATE: a COEFFICIENT would be beyond 1000: of x x")
    static void spanRefusesCoefficientsOfXX() {
        dueSpanAtTheEdge(new long[] {0, 0, 0, 1, 0, 0, 999}, new long[] {0, 0, 0, 1, 0, 0, 1000}, 0, 0, 256);
        Bench b = with(0, 0, 0, 0, 0, 0, -1000);
        b.refused(NONE, "span", 0, 1, 1, 0, 256);
    }

    @Says("Promise 28: STATE: a COEFFICIENT would be beyond 1000: of x")
    static void spanRefusesCoefficientsOfX() {
        dueSpanAtTheEdge(new long[] {250, 0, 0, -999, 0, 0, 999}, new long[] {250, 0, 0, -1000, 0, 0, 999}, 0, 0, 256);
        dueSpanAtTheEdge(new long[] {250, 0, 0, 999, 0, 0, 999}, new long[] {250, 0, 0, 1000, 0, 0, 999}, 0, -256, 0);
    }

    @Says("Promise 28: STATE: a COEFFICIENT would be beyond 1000: of 1")
    static void spanRefusesCoefficientsOfOne() {
        dueSpanAtTheEdge(new long[] {998, 0, 0, 3}, new long[] {999, 0, 0, 3}, 0, 256, 512);
        dueSpanAtTheEdge(new long[] {-999}, new long[] {-1000}, NONE, -256, 256);
    }

    @Says("Promise 28: NONE: the polynomial less that has no SQUARES")
    static void spanRefusesWithoutSquares() {
        Bench b = with(5, 2, 1, 4, 2, 0, -1);
        b.refused(NONE, "span", 0, 1, 1, -256, 512);
        b.refused(NONE, "span", 0, 3, 1, -256, 512);
        b.due(0, "span", 0, 2, 1, -256, 512);
        dueNumbers(b, 0, 1, 4, 2, 2, 2, 2, 1, -256, 512);
        b.refused(NONE, "squares", 0);
    }

    @Says("Promise 28: the first that fits: UNKNOWN; OUTSIDE; STATE; NONE; FULL")
    static void spanRefusesInOrder() {
        Bench b = with(0, 0, 0, 1, 0, 0, -1);
        b.lay(0, 0, 0, 1, 0, 1, -1);
        b.lay(-1);
        b.lay(1);
        dueOrderOfSpan(b);
        b.fillProofs(40, 3);
        dueOrderOfSpan(b);
        b.refused(FULL, "span", 0, 1, 1, 0, 256);
    }

    private static void dueOrderOfSpan(Bench b) {
        for (int p : new int[] {LOW, -1, 4, HIGH}) {
            b.refused(UNKNOWN, "span", p, 0, 1, 0, 256);
            b.refused(UNKNOWN, "span", p, 1, 1, 256, 0);
            b.refused(UNKNOWN, "span", p, 1, 1, 0, 256);
        }
        b.refused(OUTSIDE, "span", 1, 0, 1, 0, 256);
        b.refused(OUTSIDE, "span", 1, 1, 1, 0, 0);
        b.refused(OUTSIDE, "span", 2, 1, 1001, 0, 128);
        b.refused(OUTSIDE, "span", 0, 1, 1, 0, 2049);
        b.refused(STATE, "span", 1, 1, 1, 0, 256);
        b.refused(STATE, "span", 2, 1, 1, 0, 128);
        b.refused(STATE, "span", 2, 1, 2, 0, 256);
        b.refused(NONE, "span", 2, 1, 1, 0, 256);
    }

    // ---- what is told of PROOFS, and forged

    @Says("Promise 29: 0 its kind .. 4 its BOX (of 1, 2; NONE)")
    static void proofTellsOfEachKind() {
        Bench b = withAllKinds();
        b.dueRow("proof", new long[] {0}, SQUARES, 0, 10, 2, NONE);
        b.dueRow("proof", new long[] {1}, CORNERS, 0, 9, 0, 0);
        b.dueRow("proof", new long[] {2}, PARTS, 0, 8, 2, 1);
        b.dueRow("proof", new long[] {3}, SPAN, 1, 9, 1, NONE);
    }

    @Says("Promise 29: how many SQUARES: none to three, in a SPAN too")
    static void proofTellsHowManySquares() {
        long[][] squares = {{}, {1}, {1, 0, 1}, {1, 0, 1, 0, 0, 0, 1}};
        for (int many = 0; many < 4; many++) {
            Bench b = with(squares[many]);
            long[] spanned = Arrays.copyOf(squares[many], 7);
            spanned[3] = 1;
            spanned[6] -= 1;
            b.lay(spanned);
            b.due(0, "squares", 0);
            b.due(1, "span", 1, 1, 1, 0, 256);
            b.dueRow("proof", new long[] {0}, SQUARES, 0, 5 * many, many, NONE);
            b.dueRow("proof", new long[] {1}, SPAN, 1, 5 * many + 4, many, NONE);
            b.due(1, "check", 0);
            b.due(1, "check", 1);
        }
    }

    @Says("Promise 29: the first that fits: UNKNOWN; OUTSIDE")
    static void proofRefuses() {
        Bench b = withAllKinds();
        for (int what : ALL_BUT_NOUGHT_TO_FOUR) {
            for (int q = 0; q < 4; q++) b.refused(OUTSIDE, "proof", q, what);
            b.refused(UNKNOWN, "proof", 4, what);
            b.refused(UNKNOWN, "proof", -1, what);
        }
    }

    @Says("Terms 4: numbered from 0 on, in the order told")
    static void numbersComeInOrder() {
        Bench b = withAllKinds();
        dueNumbers(b, 0, 1, 16, 8, 0, 0, 1, 1280, 0, 0, 80);
        dueNumbers(b, 1, 5 * ONE, 5 * ONE, 5 * ONE, 5 * ONE, 5 * ONE, 5 * ONE, 9 * ONE, 9 * ONE, 9 * ONE);
        dueNumbers(b, 2, -512, 0, -256, 256, 0, 512, -256, 256);
        dueNumbers(b, 3, 1, 4, 2, 2, 2, 2, 1, -256, 512);
    }

    @Says("Promise 30: LOST: UNKNOWN: there is no such place")
    static void numberRefuses() {
        Bench b = withAllKinds();
        int[] many = {10, 9, 8, 9};
        for (int q = 0; q < 4; q++) {
            for (int i : new int[] {LOW, -1, many[q], HIGH}) b.refused(LOST, "number", q, i);
        }
    }

    @Says("Promise 31: Number i of a PROOF becomes v, and no other")
    static void forgeChangesOneNumber() {
        int[] many = {10, 9, 8, 9};
        for (int q = 0; q < 4; q++) {
            for (int i : new int[] {0, 1, many[q] - 1}) {
                Bench b = withAllKinds();
                b.due(1, "forge", q, i, -77);
                Bench other = withAllKinds();
                for (int at = 0; at < 40; at++) {
                    long was = other.ask("number", at / 10, at % 10);
                    b.due(at == 10 * q + i ? -77 : was, "number", at / 10, at % 10);
                }
            }
        }
    }

    @Says("Promise 31: UNKNOWN: there is no such place")
    static void forgeRefusesPlaces() {
        Bench b = withAllKinds();
        int[] many = {10, 9, 8, 9};
        for (int q = 0; q < 4; q++) {
            for (int i : new int[] {LOW, -1, many[q], HIGH}) {
                b.refused(UNKNOWN, "forge", q, i, 1);
                b.refused(UNKNOWN, "forge", q, i, LOST);
            }
            b.due(1, "forge", q, many[q] - 1, 1);
        }
        b.refused(UNKNOWN, "forge", 4, 0, LOST);
    }

    @Says("Promise 31: OUTSIDE: v is not -1000000000 .. 1000000000")
    static void forgeRefusesNumbers() {
        Bench b = withAllKinds();
        for (int q : new int[] {SQUARES, PARTS, SPAN}) {
            for (int i : new int[] {0, 7}) {
                for (int sign = -1; sign < 2; sign += 2) {
                    b.due(1, "forge", q, i, sign * MOST_FORGED);
                    b.due(sign * MOST_FORGED, "number", q, i);
                    b.refused(OUTSIDE, "forge", q, i, sign * (MOST_FORGED + 1L));
                }
                for (long v : new long[] {LOW, HIGH, Long.MIN_VALUE, Long.MAX_VALUE, 4294967296L}) {
                    b.refused(OUTSIDE, "forge", q, i, v);
                }
            }
        }
    }

    @Says("Promise 31: of CORNERS any")
    static void forgeTakesAnyCorner() {
        Bench b = withAllKinds();
        for (int i = 0; i < 9; i += 4) {
            for (long v : new long[] {MOST_FORGED + 1L, -MOST_FORGED - 1L, Long.MIN_VALUE, Long.MAX_VALUE}) {
                b.due(1, "forge", CORNERS, i, v);
                b.due(v, "number", CORNERS, i);
            }
        }
    }

    // ---- check

    private static void dueForged(Bench b, int q, int i, long v, long want) {
        long was = b.ask("number", q, i);
        b.due(1, "forge", q, i, v);
        b.due(want, "check", q);
        b.due(1, "forge", q, i, was);
    }

    @Says("Promise 32: 9 where a WEIGHT's m or n is not above 0")
    static void checkTellsOfWeights() {
        int[][] weights = {{SQUARES, 0}, {SQUARES, 5}, {SPAN, 0}, {SPAN, 5}};
        for (int[] at : weights) {
            Bench b = withAllKinds();
            for (int i = at[1]; i < at[1] + 2; i++) {
                for (long v : new long[] {0, -1, -MOST_FORGED}) dueForged(b, at[0], i, v, -29);
                b.due(1, "check", at[0]);
            }
            b.ask("forge", at[0], at[1], -1);
            b.ask("forge", at[0], at[1] + 1, -16);
            b.due(-29, "check", at[0]);
        }
    }

    @Says("Promise 32: 9, else the first TERM: WEIGHTS come ahead of TERMS")
    static void checkTellsOfWeightsFirst() {
        Bench b = withAllKinds();
        for (int q : new int[] {SQUARES, SPAN}) {
            b.ask("forge", q, 4, 999);
            b.due(-20, "check", q);
            b.ask("forge", q, 6, 0);
            b.due(-29, "check", q);
            b.ask("forge", q, 6, 1);
            b.ask("forge", q, 0, 0);
            b.due(-29, "check", q);
        }
    }

    @Says("Promise 32: a WEIGHT of the least m and n is above 0")
    static void checkTakesWeightsOfOne() {
        Bench b = with(1);
        b.ask("squares", 0);
        b.ask("forge", 0, 1, 1);
        b.ask("forge", 0, 4, 1);
        b.due(1, "check", 0);
        b.ask("forge", 0, 0, MOST_FORGED);
        b.due(-20, "check", 0);
        b.ask("forge", 0, 1, MOST_FORGED);
        b.due(1, "check", 0);
        b.ask("forge", 0, 1, MOST_FORGED - 1);
        b.due(-20, "check", 0);
    }

    @Says("Promise 32: else the first TERM that is not as it should be: of SQUARES")
    static void checkTellsTheFirstTerm() {
        // 1, 4, 2 1 1; 1, 28, 0 7 1; 1, 532, 0 0 38
        Bench b = with(3, 1, 2, 1, 1, 0, 1);
        b.ask("squares", 0);
        dueForged(b, 0, 4, 2, -20);
        dueForged(b, 0, 14, 37, -20);
        dueForged(b, 0, 0, 2, -20);
        dueForged(b, 0, 3, 2, -21);
        dueForged(b, 0, 13, 1, -21);
        dueForged(b, 0, 2, 3, -23);
        dueForged(b, 0, 12, 1, -23);
        dueForged(b, 0, 14, -38, 1);
        // 1, 4, 2 0 0; 1, 16, 0 4 0
        Bench c = with(0, 0, 1, 0, 0, 0, 1);
        c.ask("squares", 0);
        dueForged(c, 0, 8, 5, -22);
        dueForged(c, 0, 7, 1, -24);
        dueForged(c, 0, 2, 3, -26);
        dueForged(c, 0, 0, 2, -26);
        dueForged(c, 0, 5, 2, -22);
    }

    @Says("Promise 32: else the first TERM that is not as it should be: of SPAN")
    static void checkTellsTheFirstTermOfSpan() {
        // 1, 4, 2 2 2; 2, 1, -256, 512
        Bench b = withAllKinds();
        dueForged(b, SPAN, 5, 3, -20);
        dueForged(b, SPAN, 6, 2, -20);
        dueForged(b, SPAN, 7, -257, -20);
        dueForged(b, SPAN, 8, 511, -20);
        dueForged(b, SPAN, 3, 1, -21);
        dueForged(b, SPAN, 2, 1, -23);
        b.due(1, "check", SPAN);
        // x (3 - x): 1, 1, 0, 768
        Bench c = with(0, 0, 0, 3, 0, 0, -1);
        c.ask("span", 0, 1, 1, 0, 768);
        dueForged(c, 0, 3, 769, -23);
        dueForged(c, 0, 2, 1, -20);
        dueForged(c, 0, 0, 2, -23);
        dueForged(c, 0, 1, 3, -23);
        // (x + 1)(1 - x): of x x alone
        Bench d = with(1, 0, 0, 0, 0, 0, -1);
        d.ask("span", 0, 1, 1, -256, 256);
        d.ask("forge", 0, 0, 4);
        d.ask("forge", 0, 2, -128);
        d.ask("forge", 0, 3, 128);
        d.due(-26, "check", 0);
    }

    @Says("Terms 4: exactly the sum: of SPAN with the furthest numbers")
    static void checkOfFurthestSpans() {
        Bench b = with(0, 0, 0, 1, 0, 0, -1);
        b.ask("span", 0, 1, 1, 0, 256);
        for (int sign = -1; sign < 2; sign += 2) {
            dueForged(b, 0, 3, sign * MOST_FORGED, -23);
            dueForged(b, 0, 2, sign * MOST_FORGED, -20);
        }
        b.ask("forge", 0, 0, MOST_FORGED);
        b.ask("forge", 0, 1, MOST_FORGED);
        b.due(1, "check", 0);
        b.ask("forge", 0, 2, 256);
        b.ask("forge", 0, 3, 0);
        b.due(1, "check", 0);
        b.ask("forge", 0, 2, -MOST_FORGED);
        b.ask("forge", 0, 3, MOST_FORGED);
        b.due(-20, "check", 0);
    }

    @Says("Terms 4: exactly the sum: what would wrap around in numbers of 64 or 128 bits")
    static void checkDoesNotWrap() {
        // the last SQUARE is 1 by 2 to the 51st of 2 to the 30th: what is 2 to the k times too much wraps away
        Bench b = with(512, 0, 512, 0, 0, 0, 512);
        b.ask("squares", 0);
        b.due(1L << 51, "number", 0, 11);
        b.due(1L << 30, "number", 0, 14);
        b.due(1, "check", 0);
        for (int k = 0; k < 30; k++) dueForged(b, 0, 10, 1 + (1L << k), -20);
        b.due(1, "check", 0);
    }

    @Says("Terms 4: exactly the sum: what would wrap around in numbers of 192 bits")
    static void checkDoesNotWrapInSpans() {
        // the same SQUARES, and x (1 - x)
        Bench b = with(512, 0, 512, 1, 0, 0, 511);
        b.ask("span", 0, 1, 1, 0, 256);
        b.due(1, "check", 0);
        long great = 1L << 29;
        b.ask("forge", 0, 15, great);
        b.ask("forge", 0, 16, great);
        b.ask("forge", 0, 0, 1L << 18);
        b.ask("forge", 0, 1, great);
        b.due(1, "check", 0);
        for (int k = 0; k < 30; k++) dueForged(b, 0, 10, 1 + (1L << k), -20);
        b.due(1, "check", 0);
    }

    @Says("Promise 32: of CORNERS the first number")
    static void checkTellsTheFirstCorner() {
        Bench b = with(Bench.termsOfCorners(0, 1, 2, 3, 4, 5, 6, 7, 8));
        b.ask("box", 0, 256, 0, 256);
        b.ask("corners", 0, 0);
        b.due(1, "check", 0);
        for (int k = 0; k < 9; k++) {
            long[] wrong = {k * ONE - 1, k * ONE + 1, -1, Long.MIN_VALUE, Long.MAX_VALUE};
            for (long v : wrong) dueForged(b, 0, k, v, -20 - k);
        }
        b.due(1, "check", 0);
        for (int k = 8; k >= 0; k--) {
            b.ask("forge", 0, k, 99);
            b.due(-20 - k, "check", 0);
        }
    }

    @Says("Promise 32: of PARTS the first PART one of whose numbers is not as STEPS make it")
    static void checkTellsTheFirstPart() {
        // (x - y)(x - y) + 1, cut a few times
        Bench b = with(1, 0, 1, 0, -2, 0, 1);
        b.ask("box", -512, 512, -512, 512);
        b.ask("parts", 0, 0);
        b.ask("cover", 500);
        b.due(0, "proved");
        long many = b.ask("proof", 0, 3);
        Sentences.holds("there are more than two", many > 2 ? 1 : 0, 1);
        for (int i = 0; i < 4 * many; i++) {
            long was = b.ask("number", 0, i);
            dueForged(b, 0, i, i % 2 == 0 ? was + 1 : was - 1, -20 - i / 4);
        }
        b.due(1, "check", 0);
        for (int i = (int) (4 * many) - 1; i >= 0; i--) {
            b.ask("forge", 0, i, MOST_FORGED);
            b.due(-20 - i / 4, "check", 0);
        }
    }

    @Says("Promise 32: a number that is forged back is RIGHT again; check changes nothing")
    static void checkAgain() {
        Bench b = withAllKinds();
        long[] wrong = {-22, -23, -20, -21};
        for (int q = 0; q < 4; q++) {
            dueForged(b, q, 3, 12345, wrong[q]);
            b.due(1, "check", q);
        }
        b.refused(1, "check", 0);
        b.refused(1, "check", 2);
        b.ask("parts", 0, 1);
        b.ask("cover", 1);
        b.refused(1, "check", 2);
    }

    // ---- kinds, TELLING, COSTS

    @Says("Promise 33: CAST (a SPAN is SQUARES, PARTS are CORNERS, too)")
    static void asTellsKinds() {
        Bench b = withAllKinds();
        boolean[][] is = {{true, false, false, false, true}, {false, true, false, false, true},
            {false, true, true, false, true}, {true, false, false, true, true}};
        for (int q = 0; q < 4; q++) {
            for (int kind = 0; kind < 5; kind++) {
                if (is[q][kind]) b.due(1, "as", q, kind);
                else b.faulted(CAST, "as", q, kind);
            }
        }
    }

    @Says("Promise 33: the first that fits: UNKNOWN; OUTSIDE; CAST")
    static void asRefuses() {
        Bench b = withAllKinds();
        for (int kind : ALL_BUT_NOUGHT_TO_FOUR) {
            for (int q = 0; q < 4; q++) b.refused(OUTSIDE, "as", q, kind);
            b.refused(UNKNOWN, "as", 4, kind);
            b.refused(UNKNOWN, "as", -1, kind);
        }
        b.refused(UNKNOWN, "as", 4, 0);
    }

    @Says("Promise 34: TELLING of each kind, the bodies in TRACE")
    static void tellsByBodies() {
        long[] answers = {10, 18, 8, 18};
        int[][] bodies = {{1}, {3, 1}, {4, 3, 1}, {2, 1}};
        Bench b = withAllKinds();
        int trace = 0;
        for (int q = 0; q < 4; q++) {
            b.due(answers[q], "tell", q);
            for (int body : bodies[q]) trace = 31 * trace + body;
            b.due(trace, "trace");
        }
    }

    @Says("Promise 35: COSTS of each kind, the bodies in TRACE")
    static void costsByBodies() {
        long[] answers = {110, 7, 7, 109};
        int[] bodies = {5, 6, 6, 5};
        Bench b = withAllKinds();
        int trace = 0;
        for (int q = 0; q < 4; q++) {
            b.due(answers[q], "cost", q);
            trace = 31 * trace + bodies[q];
            b.due(trace, "trace");
        }
    }

    @Says("Terms 4: how many numbers: of the shortest and of the longest PROOFS")
    static void tellsOfShortAndLong() {
        Bench b = with(9, -24, 16);
        b.lay();
        b.lay(0, 0, 0, 1, 0, 0, -1);
        b.ask("box", -512, 512, 0, 256);
        b.ask("squares", 1);
        b.ask("span", 2, 1, 1, 0, 256);
        b.ask("parts", 0, 0);
        b.ask("cover", 500);
        b.ask("proved");
        b.dueRow("tell", NO_MORE, 0, 8, 160);
        b.dueRow("cost", NO_MORE, 100, 104, 7);
    }

    @Says("Terms 4: TRACE (an int that wraps, 0 at first)")
    static void traceWraps() {
        Bench b = withAllKinds();
        b.due(0, "trace");
        int trace = 0;
        boolean isBelow = false;
        for (int k = 0; k < 40; k++) {
            b.ask("cost", 1);
            trace = 31 * trace + 6;
            isBelow |= trace < 0;
            b.due(trace, "trace");
        }
        Sentences.holds("it has wrapped around", isBelow ? 1 : 0, 1);
    }

    @Says("Promise 36: only TELLING and COSTS leave anything in TRACE")
    static void traceStays() {
        Bench b = withAllKinds();
        for (int q = 0; q < 4; q++) {
            b.ask("check", q);
            b.ask("as", q, 4);
            b.ask("proof", q, 2);
            b.ask("number", q, 0);
        }
        b.due(0, "trace");
        b.ask("tell", 0);
        b.refused(UNKNOWN, "tell", 4);
        b.refused(UNKNOWN, "cost", -1);
        b.due(1, "trace");
    }

    // ---- fault, told

    @Says("Promise 37: 0: it came to none (0 ahead of any)")
    static void faultOfCallsThatCameToNone() {
        String[] names = {"sheet", "put", "at", "poly", "as"};
        long[][] given = {{0, 0, 2}, {3, 0, 1}, {3, 0, 2}, {3, 2, 0, 7}, {0, 0}};
        long[] answers = {1, 1, 5, 2, 1};
        for (int k = 0; k < names.length; k++) {
            Bench b = withAllKinds();
            b.due(-10 - SIZE, "sheet", 0, 0, -1);
            b.due(SIZE, "fault");
            b.due(answers[k], names[k], given[k]);
            b.due(0, "fault");
        }
        new Bench().due(0, "fault");
    }

    @Says("Promise 37: of the latest call that names one: the others leave it")
    static void faultStays() {
        String[] naming = {"sheet", "put", "at", "poly", "as"};
        for (String name : Bench.names()) {
            if (Arrays.asList(naming).contains(name)) continue;
            Bench b = withAllKinds();
            b.ask("sheet", 0, 0, -1);
            b.ask(name, new long[Bench.takes(name)]);
            b.due(SIZE, "fault");
            long[] ones = new long[Bench.takes(name)];
            Arrays.fill(ones, -1);
            b.ask(name, ones);
            b.due(SIZE, "fault");
        }
    }

    @Says("Promise 38: How many: 0 POLYNOMIALS, 1 BOXES, 2 PROOFS. OUTSIDE")
    static void toldRefuses() {
        Bench b = withAllKinds();
        b.ask("box", 0, 1, 0, 1);
        b.dueRow("told", NO_MORE, 2, 3, 4);
        for (int what : ALL_BUT_NOUGHT_TO_TWO) {
            b.refused(OUTSIDE, "told", what);
            new Bench().refused(OUTSIDE, "told", what);
        }
        b.fillPolynomials(30);
        b.fillBoxes(30);
        b.fillProofs(40, 0);
        b.dueRow("told", NO_MORE, 30, 30, 40);
    }

    @Says("What it is: at most 512 calls: the last of them")
    static void theLastCallAnswers() {
        Bench b = withAllKinds();
        b.fillBoxes(30);
        b.fillProofs(40, 0);
        int trace = 0;
        while (b.many() < 510) {
            b.ask("cost", 39);
            trace = 31 * trace + 5;
        }
        b.due(1, "check", 39);
        b.due(trace, "trace");
        Sentences.holds("calls", b.many(), 512);
    }

    // ---- numbers that are far off

    private static Bench full() {
        Bench b = withAllKinds();
        b.fillPolynomials(30);
        b.fillBoxes(30);
        b.fillProofs(40, 0);
        return b;
    }

    /** Each number that a call takes once far off, the others 0. */
    @Says("Terms: REFUSALS: numbers that are far off are refused by every call")
    static void farNumbersAreRefused() {
        for (String name : Bench.names()) {
            for (int i = 0; i < Bench.takes(name); i++) {
                for (int far : new int[] {LOW, HIGH}) {
                    boolean isAny = name.equals("put") && i == 2;
                    if (!isAny) dueRefused(withAllKinds(), withAllKinds(), name, i, far);
                    if (!isAny) dueRefused(full(), full(), name, i, far);
                }
            }
        }
    }

    /** Which refusal or FAULT it is, is asked of another object in the same state. */
    private static void dueRefused(Bench b, Bench alike, String name, int i, int far) {
        long[] given = new long[Bench.takes(name)];
        given[i] = far;
        long answer = alike.ask(name, given);
        int fault = (int) alike.ask("fault");
        boolean isRefused = Bench.answersLong(name) ? answer == LOST : answer <= UNKNOWN && answer >= -10 - SIZE;
        Sentences.holds(name + Arrays.toString(given) + " is refused", isRefused ? 1 : 0, 1);
        if (fault == 0) b.refused(answer, name, given);
        else b.faulted(fault, name, given);
    }

    public static void main(String[] args) throws IllegalAccessException {
        Sentences.runAll(ProofBoundaryTests.class);
    }
}
