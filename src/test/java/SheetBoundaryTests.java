/** The boundary cases that the document names of SHEETS and POLYNOMIALS: promises 1 to 12, chapter 1 of its terms. */
public final class SheetBoundaryTests implements Words {
    private static final int[] NO_SHEETS = {LOW, -1, 4, HIGH};
    private static final int[] NO_LANES = {LOW, -1, 3, HIGH};
    private static final int[] ALL_BUT_NOUGHT = {LOW, -1, 1, HIGH};
    private static final long[] BEYOND = {-1001, 1001, LOW, HIGH, Long.MIN_VALUE, Long.MAX_VALUE, 4294967296L};

    // ---- a new object

    @Says("Promise 1: No SHEETS")
    static void newHasNoSheets() {
        Bench b = new Bench();
        for (int k = 0; k < 4; k++) {
            b.faulted(NULL, "put", k, 0, 0);
            b.due(0, "lose", k);
            for (int lane = 0; lane < 3; lane++) {
                b.faulted(NULL, "at", k, 0, lane);
                b.faulted(NULL, "poly", k, lane, 0, 0);
            }
        }
    }

    @Says("Promise 1: No POLYNOMIALS")
    static void newHasNoPolynomials() {
        Bench b = new Bench();
        b.ask("box", 0, 256, 0, 256);
        b.due(0, "told", 0);
        b.refused(UNKNOWN, "add", 0, 0, 0);
        b.refused(UNKNOWN, "times", 0, 0);
        b.refused(UNKNOWN, "slope", 0, 0);
        b.refused(LOST, "term", 0, 0);
        b.refused(LOST, "value", 0, 0, 0);
        b.refused(UNKNOWN, "same", 0, 0);
        b.refused(LOST, "corner", 0, 0, 0);
        b.refused(LOST, "bound", 0, 0, 0);
        b.refused(UNKNOWN, "parts", 0, 0);
        b.refused(LOST, "form", 0, 0, 0);
        b.refused(UNKNOWN, "squares", 0);
        b.refused(UNKNOWN, "corners", 0, 0);
        b.refused(UNKNOWN, "span", 0, 1, 1, 0, 256);
    }

    @Says("Promise 1: No BOXES")
    static void newHasNoBoxes() {
        Bench b = new Bench();
        b.lay(1);
        b.due(0, "told", 1);
        b.refused(UNKNOWN, "side", 0, 0);
        b.refused(LOST, "corner", 0, 0, 0);
        b.refused(LOST, "bound", 0, 0, 0);
        b.refused(UNKNOWN, "cut", 0, 0);
        b.refused(UNKNOWN, "parts", 0, 0);
        b.refused(UNKNOWN, "corners", 0, 0);
    }

    @Says("Promise 1: No PROOFS")
    static void newHasNoProofs() {
        Bench b = new Bench();
        b.due(0, "told", 2);
        b.refused(UNKNOWN, "proof", 0, 0);
        b.refused(LOST, "number", 0, 0);
        b.refused(UNKNOWN, "forge", 0, 0, 0);
        b.refused(UNKNOWN, "check", 0);
        b.refused(UNKNOWN, "as", 0, 4);
        b.refused(UNKNOWN, "tell", 0);
        b.refused(UNKNOWN, "cost", 0);
    }

    @Says("Promise 1: no PARTS")
    static void newHasNoParts() {
        Bench b = new Bench();
        b.lay(1);
        b.ask("box", 0, 256, 0, 256);
        b.dueRow("open", new long[0], 0, 0, 0, 0, 0);
        b.refused(UNKNOWN, "partly", 0, 0);
        b.refused(STATE, "cover", 1);
        b.refused(STATE, "proved");
        b.refused(LOST, "least");
        b.dueRow("where", new long[0], NONE, NONE);
    }

    @Says("Promise 1: a new object has nothing of another one")
    static void newHasNothingOfAnother() {
        Bench one = new Bench();
        one.lay(1);
        one.ask("box", 0, 256, 0, 256);
        one.ask("squares", 0);
        one.ask("parts", 0, 0);
        one.ask("tell", 0);
        one.ask("sheet", 0, 0, -1);
        Bench other = new Bench();
        other.dueRow("told", new long[0], 0, 0, 0);
        other.due(0, "open", 0);
        other.due(0, "trace");
        other.due(0, "fault");
        other.due(0, "lose", 3);
    }

    // ---- SHEETS

    @Says("Terms 1: SHEETS 0 .. 3")
    static void sheetsAreFour() {
        Bench b = new Bench();
        for (int k = 0; k < 4; k++) {
            b.due(1, "sheet", k, 1, k + 1);
            b.due(1, "put", k, k, 7 + k);
            b.due(7 + k, "at", k, k, 1);
            b.due(k, "poly", k, 1, 0, k + 1);
        }
        for (int k : NO_SHEETS) {
            b.refused(UNKNOWN, "sheet", k, 1, 1);
            b.refused(UNKNOWN, "lose", k);
            b.refused(UNKNOWN, "put", k, 0, 1);
            b.refused(LOST, "at", k, 0, 1);
            b.refused(UNKNOWN, "poly", k, 1, 0, 1);
        }
        b.due(1, "lose", 0);
        b.due(1, "lose", 3);
        b.due(8, "at", 1, 1, 1);
        b.due(9, "at", 2, 2, 1);
    }

    @Says("Terms 1: LANE: 0 bytes, 1 ints, 2 longs")
    static void lanesAreThree() {
        Bench b = new Bench();
        for (int lane = 0; lane < 3; lane++) {
            b.due(1, "sheet", lane, lane, 2);
            b.due(0, "at", lane, 1, lane);
            b.due(lane, "poly", lane, lane, 0, 2);
        }
        for (int lane : NO_LANES) {
            b.refused(OUTSIDE, "sheet", 0, lane, 2);
            b.refused(LOST, "at", 0, 1, lane);
            b.refused(OUTSIDE, "poly", 0, lane, 0, 2);
        }
    }

    @Says("Terms 1: a row of 0 .. 30 numbers")
    static void rowsAreOfNoneToThirty() {
        for (int lane = 0; lane < 3; lane++) {
            Bench b = new Bench();
            b.due(1, "sheet", 0, lane, 0);
            b.faulted(INDEX, "put", 0, 0, 1);
            b.faulted(INDEX, "at", 0, 0, lane);
            b.due(1, "sheet", 0, lane, 30);
            b.due(1, "put", 0, 29, 5);
            b.due(5, "at", 0, 29, lane);
            b.faulted(INDEX, "put", 0, 30, 1);
            b.faulted(INDEX, "at", 0, 30, lane);
        }
    }

    @Says("Terms 1: numbers (0 at first)")
    static void cellsAreNoughtAtFirst() {
        for (int lane = 0; lane < 3; lane++) {
            Bench b = new Bench();
            for (int again = 0; again < 2; again++) {
                b.ask("sheet", 0, lane, 30);
                for (int i = 0; i < 30; i++) {
                    b.due(0, "at", 0, i, lane);
                    b.ask("put", 0, i, 1);
                }
            }
        }
    }

    @Says("Terms 1: what comes to a cell of it is cut to its LANE")
    static void cellsAreCutToTheirLane() {
        Bench b = new Bench();
        for (int lane = 0; lane < 3; lane++) b.ask("sheet", lane, lane, 1);
        long[][] cut = {
            {127, 127, 127, 127}, {128, -128, 128, 128}, {-128, -128, -128, -128}, {-129, 127, -129, -129},
            {255, -1, 255, 255}, {256, 0, 256, 256}, {-256, 0, -256, -256},
            {2147483647L, -1, 2147483647L, 2147483647L}, {2147483648L, 0, -2147483648L, 2147483648L},
            {-2147483648L, 0, -2147483648L, -2147483648L}, {-2147483649L, -1, 2147483647L, -2147483649L},
            {4294967296L, 0, 0, 4294967296L}, {4294967295L, -1, -1, 4294967295L},
            {Long.MAX_VALUE, -1, -1, Long.MAX_VALUE}, {Long.MIN_VALUE, 0, 0, Long.MIN_VALUE}};
        for (long[] row : cut) {
            for (int lane = 0; lane < 3; lane++) {
                b.due(1, "put", lane, 0, row[0]);
                b.due(row[1 + lane], "at", lane, 0, lane);
                b.due(0, "fault");
            }
        }
    }

    @Says("Promise 2: A SHEET gets a new row")
    static void sheetGetsNewRow() {
        Bench b = new Bench();
        b.ask("sheet", 0, 2, 3);
        b.ask("put", 0, 0, 9);
        b.ask("sheet", 1, 2, 3);
        b.ask("put", 1, 0, 8);
        b.due(1, "sheet", 0, 2, 1);
        b.due(0, "at", 0, 0, 2);
        b.faulted(INDEX, "at", 0, 1, 2);
        b.due(1, "sheet", 0, 0, 4);
        b.faulted(CAST, "at", 0, 0, 2);
        b.due(0, "at", 0, 3, 0);
        b.due(8, "at", 1, 0, 2);
    }

    @Says("Promise 2: OUTSIDE: n above 30")
    static void sheetRefusesLongRows() {
        Bench b = new Bench();
        b.ask("sheet", 0, 1, 2);
        b.ask("put", 0, 1, 5);
        b.refused(OUTSIDE, "sheet", 0, 1, 31);
        b.refused(OUTSIDE, "sheet", 0, 1, HIGH);
        b.refused(OUTSIDE, "sheet", 1, 1, 31);
        b.due(1, "sheet", 0, 1, 30);
    }

    @Says("Promise 2: SIZE")
    static void sheetFaultsBySize() {
        Bench b = new Bench();
        b.ask("sheet", 0, 1, 2);
        b.ask("put", 0, 1, 5);
        b.faulted(SIZE, "sheet", 0, 1, -1);
        b.faulted(SIZE, "sheet", 0, 1, LOW);
        b.faulted(SIZE, "sheet", 1, 0, -1);
        b.due(1, "sheet", 0, 1, 0);
    }

    @Says("Promise 2: the first that fits: UNKNOWN; OUTSIDE; SIZE")
    static void sheetRefusesInOrder() {
        Bench b = new Bench();
        b.ask("sheet", 0, 1, 2);
        b.refused(UNKNOWN, "sheet", 4, 3, 1);
        b.refused(UNKNOWN, "sheet", -1, 0, 31);
        b.refused(UNKNOWN, "sheet", 4, 0, -1);
        b.refused(OUTSIDE, "sheet", 0, 3, -1);
        b.refused(OUTSIDE, "sheet", 0, -1, LOW);
    }

    @Says("Promise 3: A SHEET has nothing: 1; 0: it had nothing")
    static void loseTellsWhatWas() {
        Bench b = new Bench();
        b.ask("sheet", 0, 0, 0);
        b.ask("sheet", 1, 1, 1);
        b.ask("put", 1, 0, 6);
        b.due(0, "lose", 2);
        b.due(1, "lose", 0);
        b.due(0, "lose", 0);
        b.faulted(NULL, "put", 0, 0, 1);
        b.due(6, "at", 1, 0, 1);
        b.due(1, "sheet", 0, 0, 0);
        b.due(1, "lose", 0);
    }

    @Says("Promise 3: UNKNOWN; it names no FAULTS")
    static void loseNamesNoFaults() {
        Bench b = new Bench();
        b.ask("put", 0, 0, 0);
        b.due(1, "fault");
        b.ask("lose", 0);
        b.due(1, "fault");
        b.ask("lose", 4);
        b.due(1, "fault");
    }

    @Says("Promise 4: Cell i of a SHEET becomes v, and no other")
    static void putChangesOneCell() {
        Bench b = new Bench();
        b.ask("sheet", 0, 2, 3);
        b.ask("sheet", 1, 2, 3);
        for (int i = 0; i < 3; i++) b.ask("put", 0, i, 10 + i);
        b.due(1, "put", 0, 1, -5);
        for (int i = 0; i < 3; i++) {
            b.due(i == 1 ? -5 : 10 + i, "at", 0, i, 2);
            b.due(0, "at", 1, i, 2);
        }
    }

    @Says("Promise 4: NULL; INDEX")
    static void putFaultsByPlace() {
        Bench b = new Bench();
        b.ask("sheet", 0, 1, 3);
        b.due(1, "put", 0, 0, 4);
        b.due(1, "put", 0, 2, 6);
        for (int i : new int[] {LOW, -1, 3, HIGH}) b.faulted(INDEX, "put", 0, i, 9);
        b.faulted(NULL, "put", 1, 0, 9);
        b.ask("lose", 0);
        b.faulted(NULL, "put", 0, 0, 9);
    }

    @Says("Promise 4: the first that fits: UNKNOWN; NULL; INDEX")
    static void putRefusesInOrder() {
        Bench b = new Bench();
        b.refused(UNKNOWN, "put", 4, -1, 1);
        b.refused(UNKNOWN, "put", -1, 0, 1);
        b.faulted(NULL, "put", 0, -1, 1);
        b.faulted(NULL, "put", 0, 31, 1);
    }

    @Says("Promise 5: CAST, each LANE taken as each other")
    static void atFaultsByCast() {
        Bench b = new Bench();
        for (int lane = 0; lane < 3; lane++) {
            b.ask("sheet", lane, lane, 1);
            b.ask("put", lane, 0, 4);
        }
        for (int k = 0; k < 3; k++) {
            for (int lane = 0; lane < 3; lane++) {
                if (lane == k) b.due(4, "at", k, 0, lane);
                else b.faulted(CAST, "at", k, 0, lane);
            }
        }
    }

    @Says("Promise 5: INDEX")
    static void atFaultsByIndex() {
        Bench b = new Bench();
        b.ask("sheet", 0, 2, 3);
        b.ask("put", 0, 0, 4);
        b.ask("put", 0, 2, 6);
        b.due(4, "at", 0, 0, 2);
        b.due(6, "at", 0, 2, 2);
        for (int i : new int[] {LOW, -1, 3, HIGH}) b.faulted(INDEX, "at", 0, i, 2);
    }

    @Says("Promise 5: nothing is no CAST: NULL")
    static void atFaultsByNull() {
        Bench b = new Bench();
        for (int lane = 0; lane < 3; lane++) b.faulted(NULL, "at", 0, 0, lane);
        b.ask("sheet", 0, 1, 1);
        b.ask("lose", 0);
        for (int lane = 0; lane < 3; lane++) b.faulted(NULL, "at", 0, 0, lane);
    }

    @Says("Promise 5: the first that fits: UNKNOWN, OUTSIDE; CAST, NULL, INDEX")
    static void atRefusesInOrder() {
        Bench b = new Bench();
        b.ask("sheet", 0, 1, 1);
        b.refused(LOST, "at", 4, -1, 1);
        b.refused(LOST, "at", 0, -1, 3);
        b.refused(LOST, "at", 1, 0, 3);
        b.faulted(CAST, "at", 0, -1, 2);
        b.faulted(CAST, "at", 0, 1, 0);
        b.faulted(NULL, "at", 1, -1, 2);
    }

    @Says("Promise 5: a cell of LOST is no refusal")
    static void atTellsLeastLong() {
        Bench b = new Bench();
        b.ask("sheet", 0, 2, 1);
        b.ask("put", 0, 0, LOST);
        b.ask("sheet", 1, 0, -1);
        b.due(LOST, "at", 0, 0, 2);
        b.due(0, "fault");
    }

    // ---- POLYNOMIALS

    private static void dueTerms(Bench b, long p, long... terms) {
        for (int t = 0; t < 9; t++) b.due(t < terms.length ? terms[t] : 0, "term", p, t);
    }

    @Says("Terms 1: POLYNOMIALS, 30 ever")
    static void polynomialsAreThirty() {
        Bench b = new Bench();
        b.lay(1);
        b.fillPolynomials(26);
        b.due(26, "poly", 3, 0, 0, 0);
        b.due(27, "add", 0, 0, 1);
        b.due(28, "times", 0, 0);
        b.due(29, "slope", 0, 0);
        b.due(30, "told", 0);
        b.refused(FULL, "poly", 3, 0, 0, 0);
        b.refused(FULL, "add", 0, 0, 1);
        b.refused(FULL, "times", 0, 0);
        b.refused(FULL, "slope", 0, 0);
        b.due(2, "term", 27, 0);
        b.due(0, "term", 29, 0);
    }

    @Says("Terms 1: 30 ever: the thirtieth by each call")
    static void eachCallMakesTheThirtieth() {
        String[] names = {"poly", "add", "times", "slope"};
        long[][] given = {{3, 0, 0, 0}, {0, 0, 1}, {0, 0}, {0, 1}};
        for (int k = 0; k < names.length; k++) {
            Bench b = new Bench();
            b.lay(2);
            b.fillPolynomials(29);
            b.due(29, names[k], given[k]);
            b.refused(FULL, names[k], given[k]);
        }
    }

    @Says("Terms 1: numbered as they come")
    static void polynomialsAreNumbered() {
        Bench b = new Bench();
        b.due(0, "told", 0);
        Sentences.holds("the first one", b.lay(2, 1), 0);
        b.due(1, "add", 0, 0, 1);
        b.refused(OUTSIDE, "add", 0, 0, 1001);
        b.due(2, "times", 0, 0);
        b.refused(UNKNOWN, "times", 0, 3);
        b.due(3, "slope", 0, 1);
        Sentences.holds("the fifth one", b.lay(7), 4);
        dueTerms(b, 0, 2, 1);
        dueTerms(b, 1, 4, 2);
        dueTerms(b, 2, 4, 4, 1);
        dueTerms(b, 3, 1);
        dueTerms(b, 4, 7);
    }

    @Says("Terms 1: there is no such POLYNOMIAL")
    static void otherNumbersAreUnknown() {
        Bench b = new Bench();
        b.lay(1);
        b.lay(2);
        b.ask("box", 0, 256, 0, 256);
        for (int p : new int[] {LOW, -1, 2, 30, HIGH}) {
            b.refused(UNKNOWN, "add", p, 0, 1);
            b.refused(UNKNOWN, "add", 0, p, 1);
            b.refused(UNKNOWN, "times", p, 0);
            b.refused(UNKNOWN, "times", 0, p);
            b.refused(UNKNOWN, "slope", p, 0);
            b.refused(LOST, "term", p, 0);
            b.refused(LOST, "value", p, 0, 0);
            b.refused(UNKNOWN, "same", p, 0);
            b.refused(UNKNOWN, "same", 0, p);
        }
        b.due(2, "term", 1, 0);
        b.due(2, "add", 1, 1, 0);
    }

    @Says("Promise 6: TERMS 0 .. n - 1 are cells i .. i + n - 1, the others 0")
    static void polyTakesItsCells() {
        Bench b = new Bench();
        b.ask("sheet", 0, 1, 30);
        for (int i = 0; i < 30; i++) b.ask("put", 0, i, 100 + i);
        b.due(0, "poly", 0, 1, 0, 9);
        dueTerms(b, 0, 100, 101, 102, 103, 104, 105, 106, 107, 108);
        b.due(1, "poly", 0, 1, 21, 9);
        dueTerms(b, 1, 121, 122, 123, 124, 125, 126, 127, 128, 129);
        b.due(2, "poly", 0, 1, 29, 1);
        dueTerms(b, 2, 129);
        b.due(3, "poly", 0, 1, 5, 0);
        dueTerms(b, 3);
        b.due(4, "poly", 0, 1, 5, 8);
        dueTerms(b, 4, 105, 106, 107, 108, 109, 110, 111, 112);
    }

    @Says("Promise 6: OUTSIDE: n above 9")
    static void polyRefusesTenTerms() {
        Bench b = new Bench();
        b.ask("sheet", 0, 1, 30);
        b.refused(OUTSIDE, "poly", 0, 1, 0, 10);
        b.refused(OUTSIDE, "poly", 0, 1, 0, HIGH);
        b.due(0, "poly", 0, 1, 0, 9);
    }

    @Says("Promise 6: CAST; NULL")
    static void polyFaultsByRow() {
        Bench b = new Bench();
        for (int k = 0; k < 3; k++) b.ask("sheet", k, k, 9);
        for (int k = 0; k < 3; k++) {
            for (int lane = 0; lane < 3; lane++) {
                if (lane != k) b.faulted(CAST, "poly", k, lane, 0, 9);
                b.faulted(NULL, "poly", 3, lane, 0, 9);
            }
            b.due(k, "poly", k, k, 0, 9);
        }
    }

    @Says("Promise 6: SIZE: n below 0")
    static void polyFaultsBySize() {
        Bench b = new Bench();
        b.ask("sheet", 0, 1, 9);
        b.faulted(SIZE, "poly", 0, 1, 0, -1);
        b.faulted(SIZE, "poly", 0, 1, 1, -1);
        b.faulted(SIZE, "poly", 0, 1, 0, LOW);
        b.due(0, "poly", 0, 1, 0, 0);
    }

    @Says("Promise 6: INDEX")
    static void polyFaultsByIndex() {
        Bench b = new Bench();
        b.ask("sheet", 0, 1, 12);
        b.ask("sheet", 1, 1, 0);
        b.faulted(INDEX, "poly", 0, 1, 4, 9);
        b.faulted(INDEX, "poly", 0, 1, 12, 1);
        b.faulted(INDEX, "poly", 0, 1, 13, 0);
        b.faulted(INDEX, "poly", 1, 1, 0, 1);
        b.faulted(INDEX, "poly", 1, 1, 1, 0);
        for (int n = 0; n < 10; n++) {
            b.faulted(INDEX, "poly", 0, 1, -1, n);
            b.faulted(INDEX, "poly", 0, 1, LOW, n);
            b.faulted(INDEX, "poly", 0, 1, HIGH, n);
            b.faulted(INDEX, "poly", 0, 1, HIGH - n, n);
            b.due(n, "poly", 0, 1, 12 - n, n);
        }
        b.due(10, "poly", 1, 1, 0, 0);
    }

    @Says("Terms 1: a COEFFICIENT, a whole number -1000 .. 1000: of poly")
    static void polyRefusesCoefficients() {
        for (int t = 0; t < 9; t++) {
            Bench b = new Bench();
            Sentences.holds("TERM " + t + " of 1000", b.layTerm(t, 1000), 0);
            Sentences.holds("TERM " + t + " of -1000", b.layTerm(t, -1000), 1);
            b.due(1000, "term", 0, t);
            b.due(-1000, "term", 1, t);
            b.ask("sheet", 0, 2, 9);
            for (long v : BEYOND) {
                b.ask("put", 0, t, v);
                b.refused(OUTSIDE, "poly", 0, 2, 0, 9);
            }
            b.due(2, "told", 0);
            b.due(2, "poly", 0, 2, 0, t);
        }
    }

    @Says("Promise 6: only the cells that it takes are COEFFICIENTS")
    static void polyLooksAtItsCellsAlone() {
        Bench b = new Bench();
        b.ask("sheet", 0, 1, 11);
        b.ask("put", 0, 0, 1001);
        b.ask("put", 0, 10, -1001);
        b.due(0, "poly", 0, 1, 1, 9);
        b.refused(OUTSIDE, "poly", 0, 1, 0, 9);
        b.refused(OUTSIDE, "poly", 0, 1, 2, 9);
        b.due(1, "poly", 0, 1, 0, 0);
    }

    @Says("Promise 6: the first that fits, with room for more")
    static void polyRefusesInOrder() {
        dueOrderOfPoly(new Bench());
    }

    @Says("Promise 6: the first that fits, FULL the last")
    static void polyRefusesInOrderIfFull() {
        Bench b = new Bench();
        b.fillPolynomials(30);
        dueOrderOfPoly(b);
        b.ask("put", 0, 0, 1000);
        b.refused(FULL, "poly", 0, 2, 0, 1);
        b.refused(FULL, "poly", 0, 2, 3, 0);
    }

    /** SHEET 0: three longs, the first one 1001; SHEET 1: nothing. */
    private static void dueOrderOfPoly(Bench b) {
        b.ask("sheet", 0, 2, 3);
        b.ask("put", 0, 0, 1001);
        b.refused(UNKNOWN, "poly", 4, 3, 0, 1);
        b.refused(UNKNOWN, "poly", -1, 2, 0, 10);
        b.refused(UNKNOWN, "poly", 4, 2, 0, -1);
        b.refused(OUTSIDE, "poly", 0, 3, 0, 1);
        b.refused(OUTSIDE, "poly", 0, 3, 0, -1);
        b.refused(OUTSIDE, "poly", 1, 3, 0, 1);
        b.refused(OUTSIDE, "poly", 0, 1, 0, 10);
        b.refused(OUTSIDE, "poly", 1, 1, 0, 10);
        b.refused(OUTSIDE, "poly", 0, 2, -1, 10);
        b.faulted(CAST, "poly", 0, 1, 0, -1);
        b.faulted(CAST, "poly", 0, 1, -1, 1);
        b.faulted(CAST, "poly", 0, 1, 0, 1);
        b.faulted(NULL, "poly", 1, 2, 0, -1);
        b.faulted(NULL, "poly", 1, 2, -1, 1);
        b.faulted(SIZE, "poly", 0, 2, -1, -1);
        b.faulted(SIZE, "poly", 0, 2, 4, -1);
        b.faulted(INDEX, "poly", 0, 2, 0, 4);
        b.faulted(INDEX, "poly", 0, 2, -1, 2);
        b.refused(OUTSIDE, "poly", 0, 2, 0, 1);
    }

    @Says("Terms 4: polynomials do not change")
    static void polynomialsDoNotChange() {
        Bench b = new Bench();
        b.ask("sheet", 0, 2, 9);
        b.ask("put", 0, 0, 5);
        b.ask("poly", 0, 2, 0, 9);
        b.ask("put", 0, 0, 6);
        dueTerms(b, 0, 5);
        b.ask("lose", 0);
        b.ask("add", 0, 0, 3);
        b.ask("times", 0, 1);
        b.ask("slope", 0, 0);
        dueTerms(b, 0, 5);
        dueTerms(b, 1, 20);
        dueTerms(b, 2, 100);
    }

    @Says("Promise 7: OUTSIDE: w is not -1000 .. 1000")
    static void addRefusesWeights() {
        Bench b = new Bench();
        b.lay(0, 1);
        b.lay();
        for (int w : new int[] {LOW, -1001, 1001, HIGH}) {
            b.refused(OUTSIDE, "add", 1, 0, w);
            b.refused(OUTSIDE, "add", 1, 1, w);
        }
        b.due(2, "add", 1, 0, 1000);
        b.due(3, "add", 1, 0, -1000);
        b.due(4, "add", 0, 0, 0);
        dueTerms(b, 2, 0, 1000);
        dueTerms(b, 3, 0, -1000);
        dueTerms(b, 4, 0, 1);
    }

    @Says("Promise 7: OUTSIDE: a COEFFICIENT")
    static void addRefusesCoefficients() {
        for (int t = 0; t < 9; t++) {
            Bench b = new Bench();
            b.layTerm(t, 1000);
            b.layTerm(t, -1000);
            b.layTerm(t, 1);
            b.layTerm(t, -999);
            b.due(4, "add", 0, 2, 0);
            b.due(5, "add", 0, 2, -1);
            b.due(6, "add", 3, 2, -1);
            b.due(7, "add", 3, 0, 1);
            b.due(8, "add", 3, 3, -1);
            b.due(1000, "term", 4, t);
            b.due(999, "term", 5, t);
            b.due(-1000, "term", 6, t);
            b.due(1, "term", 7, t);
            b.due(0, "term", 8, t);
            b.refused(OUTSIDE, "add", 0, 2, 1);
            b.refused(OUTSIDE, "add", 1, 2, -1);
            b.refused(OUTSIDE, "add", 3, 2, -2);
            b.refused(OUTSIDE, "add", 0, 0, 1000);
            b.refused(OUTSIDE, "add", 0, 0, -1000);
        }
    }

    @Says("Promise 7: the first that fits: UNKNOWN; OUTSIDE; FULL")
    static void addRefusesInOrder() {
        Bench b = new Bench();
        b.lay(1000);
        b.refused(UNKNOWN, "add", 1, 0, 1001);
        b.refused(UNKNOWN, "add", 0, 1, 1001);
        b.fillPolynomials(30);
        b.refused(UNKNOWN, "add", 30, 0, 1);
        b.refused(UNKNOWN, "add", 0, 30, 1);
        b.refused(OUTSIDE, "add", 1, 1, 1001);
        b.refused(OUTSIDE, "add", 0, 0, 1);
        b.refused(FULL, "add", 0, 1, 1);
    }

    @Says("Promise 8: OUTSIDE: a COEFFICIENT of TERMS 0 .. 8")
    static void timesRefusesCoefficients() {
        for (int t = 0; t < 9; t++) {
            Bench b = new Bench();
            b.lay(10);
            b.lay(-7);
            b.layTerm(t, 100);
            b.layTerm(t, 143);
            b.layTerm(t, -143);
            b.layTerm(t, -100);
            b.due(6, "times", 0, 2);
            b.due(7, "times", 5, 0);
            b.due(1000, "term", 6, t);
            b.due(-1000, "term", 7, t);
            b.refused(OUTSIDE, "times", 1, 3);
            b.refused(OUTSIDE, "times", 4, 1);
            b.refused(OUTSIDE, "times", 0, 3);
        }
    }

    @Says("Promise 8: COEFFICIENTS that are sums of products")
    static void timesSumsItsProducts() {
        Bench b = new Bench();
        b.lay(20, 30);
        b.lay(25, -15);
        b.lay(1000, 1000, 1000, 1000, 1000, 1000, 1000, 1000, 1000);
        b.due(3, "times", 0, 1);
        dueTerms(b, 3, 500, 450, -450);
        b.lay(25, 13);
        b.refused(OUTSIDE, "times", 0, 4);
        b.refused(OUTSIDE, "times", 2, 2);
        b.lay(25, 12);
        b.due(6, "times", 0, 5);
        dueTerms(b, 6, 500, 990, 360);
    }

    @Says("Promise 8: STATE: it has another TERM (of x or y to the third or fourth)")
    static void timesRefusesOtherTerms() {
        for (int i = 0; i < 5; i++) {
            for (int j = 0; j < 5; j++) {
                Bench b = new Bench();
                b.layTerm(3 * (i / 2) + j / 2, 100);
                b.layTerm(3 * (i - i / 2) + j - j / 2, 10);
                if (i > 2 || j > 2) b.refused(STATE, "times", 0, 1);
                else b.due(2, "times", 0, 1);
                if (i > 2 || j > 2) b.refused(STATE, "times", 1, 0);
                else b.due(1000, "term", 2, 3 * i + j);
            }
        }
    }

    @Says("Promise 8: nought times anything has no other TERM; the other TERM's number may be any")
    static void timesOfNought() {
        Bench b = new Bench();
        b.lay();
        b.lay(1, 1, 1, 1, 1, 1, 1, 1, 1);
        b.due(2, "times", 0, 1);
        dueTerms(b, 2);
        b.layTerm(8, 1000);
        b.refused(STATE, "times", 3, 3);
        b.layTerm(1, 1);
        b.refused(STATE, "times", 3, 4);
        b.layTerm(3, -1);
        b.refused(STATE, "times", 3, 5);
    }

    @Says("Promise 8: the first that fits: UNKNOWN; OUTSIDE; STATE; FULL")
    static void timesRefusesInOrder() {
        Bench b = new Bench();
        b.lay(100, 0, 1);
        b.lay(1, 0, 1);
        b.lay(11);
        b.lay(91);
        b.lay(1);
        b.refused(OUTSIDE, "times", 0, 0);
        b.refused(STATE, "times", 1, 1);
        b.fillPolynomials(30);
        b.refused(UNKNOWN, "times", 0, 30);
        b.refused(UNKNOWN, "times", -1, 0);
        b.refused(OUTSIDE, "times", 0, 0);
        b.refused(OUTSIDE, "times", 2, 3);
        b.refused(STATE, "times", 1, 1);
        b.refused(FULL, "times", 1, 4);
    }

    @Says("Promise 9: By x (which 0) or y (1)")
    static void slopeIsByXOrY() {
        Bench b = new Bench();
        b.lay(1, 2, 3, 4, 5, 6, 7, 8, 9);
        b.due(1, "slope", 0, 0);
        b.due(2, "slope", 0, 1);
        dueTerms(b, 1, 4, 5, 6, 14, 16, 18);
        dueTerms(b, 2, 2, 6, 0, 5, 12, 0, 8, 18);
        for (int which : new int[] {LOW, -1, 2, HIGH}) b.refused(OUTSIDE, "slope", 0, which);
        b.lay(1000);
        b.due(4, "slope", 3, 0);
        b.due(5, "slope", 3, 1);
        dueTerms(b, 4);
        dueTerms(b, 5);
    }

    @Says("Promise 9: OUTSIDE: a COEFFICIENT")
    static void slopeRefusesCoefficients() {
        for (int t = 0; t < 9; t++) {
            for (int which = 0; which < 2; which++) {
                int power = which == 0 ? t / 3 : t % 3;
                int most = power == 2 ? 500 : 1000;
                Bench b = new Bench();
                b.layTerm(t, most);
                b.layTerm(t, -most);
                b.due(2, "slope", 0, which);
                b.due(3, "slope", 1, which);
                if (power > 0) {
                    b.due(1000, "term", 2, which == 0 ? t - 3 : t - 1);
                    b.due(-1000, "term", 3, which == 0 ? t - 3 : t - 1);
                }
                if (power == 2) {
                    b.layTerm(t, 501);
                    b.layTerm(t, -501);
                    b.refused(OUTSIDE, "slope", 4, which);
                    b.refused(OUTSIDE, "slope", 5, which);
                }
            }
        }
    }

    @Says("Promise 9: the first that fits: UNKNOWN; OUTSIDE; FULL")
    static void slopeRefusesInOrder() {
        Bench b = new Bench();
        b.layTerm(6, 501);
        b.refused(UNKNOWN, "slope", 1, 2);
        b.refused(UNKNOWN, "slope", -1, -1);
        b.fillPolynomials(30);
        b.refused(UNKNOWN, "slope", 30, 0);
        b.refused(OUTSIDE, "slope", 0, 2);
        b.refused(OUTSIDE, "slope", 0, 0);
        b.refused(FULL, "slope", 0, 1);
    }

    @Says("Promise 10: LOST: UNKNOWN, OUTSIDE")
    static void termRefuses() {
        Bench b = new Bench();
        b.lay(11, 12, 13, 14, 15, 16, 17, 18, 19);
        b.lay(9);
        dueTerms(b, 0, 11, 12, 13, 14, 15, 16, 17, 18, 19);
        for (int t : new int[] {LOW, -1, 9, HIGH}) {
            b.refused(LOST, "term", 0, t);
            b.refused(LOST, "term", 1, t);
        }
    }

    @Says("Promise 11: OUTSIDE: x, y are not -2048 .. 2048")
    static void valueRefuses() {
        Bench b = new Bench();
        b.lay(0, 1, 0, 3);
        for (int v : new int[] {LOW, -2049, 2049, HIGH}) {
            b.refused(LOST, "value", 0, v, 0);
            b.refused(LOST, "value", 0, 0, v);
            b.refused(LOST, "value", 0, v, v);
        }
        long one = 4294967296L;
        b.due(24 * one, "value", 0, 2048, 0);
        b.due(-24 * one, "value", 0, -2048, 0);
        b.due(8 * one, "value", 0, 0, 2048);
        b.due(-8 * one, "value", 0, 0, -2048);
    }

    @Says("Promise 11: told in 256ths, times 4294967296: of each TERM (3 i + j) the least and the greatest")
    static void valueOfEachTerm() {
        for (int t = 0; t < 9; t++) {
            Bench b = new Bench();
            b.layTerm(t, 1);
            b.layTerm(t, -1000);
            long small = 1L << 32 - 8 * (t / 3) - 8 * (t % 3);
            long great = (1L << 3 * (t / 3) + 3 * (t % 3)) * 1000 * 4294967296L;
            int sign = (t / 3 + t % 3) % 2 == 0 ? 1 : -1;
            b.due(small, "value", 0, 1, 1);
            b.due(sign * small, "value", 0, -1, -1);
            b.due(t == 0 ? small : 0, "value", 0, 0, 0);
            b.due(new long[] {1, 3, 9}[t % 3] * (1 << t / 3) * 4294967296L, "value", 0, 512, 768);
            b.due(-great, "value", 1, 2048, 2048);
            b.due(-sign * great, "value", 1, -2048, -2048);
        }
    }

    @Says("Promise 11: the least and the greatest value of all")
    static void valueAtItsFurthest() {
        Bench b = new Bench();
        b.lay(1000, 1000, 1000, 1000, 1000, 1000, 1000, 1000, 1000);
        b.ask("add", 0, 0, -2);
        b.due(1000 * 73 * 73 * 4294967296L, "value", 0, 2048, 2048);
        b.due(-1000 * 73 * 73 * 4294967296L, "value", 1, 2048, 2048);
        b.due(1000 * 57 * 57 * 4294967296L, "value", 0, -2048, -2048);
        b.due(1000 * 57 * 73 * 4294967296L, "value", 0, -2048, 2048);
    }

    @Says("Promise 12: Whether two are alike: 1, 0")
    static void sameTellsEachTerm() {
        for (int t = 0; t < 9; t++) {
            Bench b = new Bench();
            b.lay(5, 5, 5, 5, 5, 5, 5, 5, 5);
            b.layTerm(t, 1);
            b.due(2, "add", 0, 1, 1);
            b.due(3, "add", 2, 1, -1);
            b.due(0, "same", 0, 2);
            b.due(0, "same", 2, 0);
            b.due(1, "same", 0, 3);
            b.due(1, "same", 2, 2);
        }
    }

    @Says("Promise 12: UNKNOWN")
    static void sameRefuses() {
        Bench b = new Bench();
        b.refused(UNKNOWN, "same", 0, 0);
        b.lay(1);
        b.due(1, "same", 0, 0);
        for (int p : ALL_BUT_NOUGHT) {
            b.refused(UNKNOWN, "same", p, 0);
            b.refused(UNKNOWN, "same", 0, p);
            b.refused(UNKNOWN, "same", p, p);
        }
    }

    public static void main(String[] args) throws IllegalAccessException {
        Sentences.runAll(SheetBoundaryTests.class);
    }
}
