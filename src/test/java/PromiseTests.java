/** One test for each promise of the document: ordinary inputs, the edges that it names, wrong inputs. */
public final class PromiseTests {
    private static final int UNKNOWN = -1, OUTSIDE = -2, STATE = -3, FULL = -4, NONE = -9;
    private static final int NULL = -11, CAST = -12, INDEX = -13, SIZE = -14;
    private static final long LOST = Long.MIN_VALUE;
    private static final long ONE = 17179869184L; // what CORNERS are told times
    private static final long VALUE_ONE = 4294967296L;
    private static final int LOW = Integer.MIN_VALUE, HIGH = Integer.MAX_VALUE;

    private static int asked = 0;
    private static int wrong = 0;
    private static int promise = 0;

    private static void due(String call, long got, long want) {
        asked++;
        if (got != want) {
            wrong++;
            System.out.println("promise " + promise + ": " + call + " answered " + got + ", due is " + want);
        }
    }

    /** Lays TERMS 0 .. n - 1 on SHEET 3 as longs and makes a POLYNOMIAL of them. */
    private static int make(NeverBelow x, long... terms) {
        x.sheet(3, 2, terms.length);
        for (int t = 0; t < terms.length; t++) {
            x.put(3, t, terms[t]);
        }
        return x.poly(3, 2, 0, terms.length);
    }

    private static void dueTerms(NeverBelow x, int p, long... terms) {
        for (int t = 0; t < 9; t++) {
            due("term(" + p + ", " + t + ")", x.term(p, t), t < terms.length ? terms[t] : 0);
        }
    }

    private static void dueNumbers(NeverBelow x, int q, long... numbers) {
        due("proof(" + q + ", 2)", x.proof(q, 2), numbers.length);
        for (int i = 0; i < numbers.length; i++) {
            due("number(" + q + ", " + i + ")", x.number(q, i), numbers[i]);
        }
        due("number behind the last", x.number(q, numbers.length), LOST);
    }

    private static void dueSides(NeverBelow x, int box, int a, int b, int c, int d) {
        due("side 0 of " + box, x.side(box, 0), a);
        due("side 1 of " + box, x.side(box, 1), b);
        due("side 2 of " + box, x.side(box, 2), c);
        due("side 3 of " + box, x.side(box, 3), d);
    }

    private static void duePart(NeverBelow x, int i, int a, int b, int c, int d, int state) {
        int[] want = {a, b, c, d, state};
        for (int what = 0; what < 5; what++) {
            due("partly(" + i + ", " + what + ")", x.partly(i, what), want[what]);
        }
    }

    private static void dueCounts(NeverBelow x, int all, int open, int shown, int stuck, int below) {
        int[] want = {all, open, shown, stuck, below};
        for (int what = 0; what < 5; what++) {
            due("open(" + what + ")", x.open(what), want[what]);
        }
    }

    private static void fillPolynomials(NeverBelow x) {
        for (int k = 0; k < 30 && x.told(0) < 30; k++) {
            x.sheet(3, 0, 0);
            x.poly(3, 0, 0, 0);
        }
    }

    private static void fillProofs(NeverBelow x, int easy) {
        for (int k = 0; k < 40 && x.told(2) < 40; k++) {
            x.squares(easy);
        }
    }

    private static void promise1() {
        NeverBelow x = new NeverBelow();
        due("told(0)", x.told(0), 0);
        due("told(1)", x.told(1), 0);
        due("told(2)", x.told(2), 0);
        due("trace()", x.trace(), 0);
        due("fault()", x.fault(), 0);
        dueCounts(x, 0, 0, 0, 0, 0);
        due("cover(0)", x.cover(0), STATE);
        due("proved()", x.proved(), STATE);
        due("least()", x.least(), LOST);
        due("where(0)", x.where(0), NONE);
        due("partly(0, 0)", x.partly(0, 0), UNKNOWN);
        for (int k = 0; k < 4; k++) {
            due("lose(" + k + ")", x.lose(k), 0);
            due("put(" + k + ", 0, 0)", x.put(k, 0, 0), NULL);
        }
        due("term(0, 0)", x.term(0, 0), LOST);
        due("side(0, 0)", x.side(0, 0), UNKNOWN);
        due("proof(0, 0)", x.proof(0, 0), UNKNOWN);
        NeverBelow y = new NeverBelow();
        make(x, 1);
        due("told(0) of another object", y.told(0), 0);
    }

    private static void promise2() {
        NeverBelow x = new NeverBelow();
        for (int lane = 0; lane < 3; lane++) {
            due("sheet(0, lane, 30)", x.sheet(0, lane, 30), 1);
            due("at(0, 29, lane)", x.at(0, 29, lane), 0);
            due("at(0, 30, lane)", x.at(0, 30, lane), LOST);
            due("fault()", x.fault(), 3);
        }
        due("put(0, 4, 77)", x.put(0, 4, 77), 1);
        due("sheet(-1, 0, 1)", x.sheet(-1, 0, 1), UNKNOWN);
        due("sheet(4, 3, 31)", x.sheet(4, 3, 31), UNKNOWN);
        due("sheet(0, -1, 1)", x.sheet(0, -1, 1), OUTSIDE);
        due("sheet(0, 3, -1)", x.sheet(0, 3, -1), OUTSIDE);
        due("sheet(0, 0, 31)", x.sheet(0, 0, 31), OUTSIDE);
        due("fault()", x.fault(), 0);
        due("sheet(0, 0, -1)", x.sheet(0, 0, -1), SIZE);
        due("fault()", x.fault(), 4);
        due("sheet(0, 2, LOW)", x.sheet(0, 2, LOW), SIZE);
        due("at(0, 4, 2): refusals and faults change nothing", x.at(0, 4, 2), 77);
        due("sheet(0, 2, 30)", x.sheet(0, 2, 30), 1);
        due("at(0, 4, 2): a new row", x.at(0, 4, 2), 0);
        due("sheet(3, 1, 0)", x.sheet(3, 1, 0), 1);
        due("put(3, 0, 1)", x.put(3, 0, 1), INDEX);
        due("sheet(3, 1, 0)", x.sheet(3, 1, 0), 1);
        due("fault() is 0 behind a call that came to none", x.fault(), 0);
    }

    private static void promise3() {
        NeverBelow x = new NeverBelow();
        x.sheet(2, 0, 3);
        due("lose(2)", x.lose(2), 1);
        due("lose(2) again", x.lose(2), 0);
        due("put(2, 0, 1)", x.put(2, 0, 1), NULL);
        due("lose(0)", x.lose(0), 0);
        due("fault(): lose names none", x.fault(), 1);
        due("lose(-1)", x.lose(-1), UNKNOWN);
        due("lose(4)", x.lose(4), UNKNOWN);
        due("fault(): lose names none", x.fault(), 1);
        x.sheet(1, 0, 0);
        due("lose(1), a row of none", x.lose(1), 1);
    }

    private static void promise4() {
        NeverBelow x = new NeverBelow();
        x.sheet(0, 0, 2);
        x.sheet(1, 1, 2);
        x.sheet(2, 2, 2);
        long[] given = {128, -129, 4294967296L + 255, Long.MIN_VALUE, 2147483648L, -1};
        for (long v : given) {
            for (int k = 0; k < 3; k++) {
                due("put(" + k + ", 1, " + v + ")", x.put(k, 1, v), 1);
            }
            due("byte of " + v, x.at(0, 1, 0), (byte) v);
            due("int of " + v, x.at(1, 1, 1), (int) v);
            due("long of " + v, x.at(2, 1, 2), v);
        }
        due("cell 0 stays", x.at(2, 0, 2), 0);
        due("put(-1, 0, 1)", x.put(-1, 0, 1), UNKNOWN);
        due("put(4, -1, 1)", x.put(4, -1, 1), UNKNOWN);
        due("fault()", x.fault(), 0);
        due("put(3, -1, 1)", x.put(3, -1, 1), NULL);
        due("fault()", x.fault(), 1);
        due("put(0, -1, 1)", x.put(0, -1, 1), INDEX);
        due("put(0, 2, 1)", x.put(0, 2, 1), INDEX);
        due("put(0, HIGH, 1)", x.put(0, HIGH, 1), INDEX);
        due("fault()", x.fault(), 3);
        due("put(0, 0, 1)", x.put(0, 0, 1), 1);
        due("fault()", x.fault(), 0);
    }

    private static void promise5() {
        NeverBelow x = new NeverBelow();
        x.sheet(0, 1, 2);
        x.put(0, 1, -5);
        due("at(0, 1, 1)", x.at(0, 1, 1), -5);
        due("fault()", x.fault(), 0);
        due("at(0, 9, 0)", x.at(0, 9, 0), LOST);
        due("fault(): CAST ahead of INDEX", x.fault(), 2);
        due("at(0, 1, 2)", x.at(0, 1, 2), LOST);
        due("fault()", x.fault(), 2);
        due("at(1, 0, 2)", x.at(1, 0, 2), LOST);
        due("fault(): nothing is no CAST", x.fault(), 1);
        due("at(0, 2, 1)", x.at(0, 2, 1), LOST);
        due("fault()", x.fault(), 3);
        due("at(0, -1, 1)", x.at(0, -1, 1), LOST);
        due("fault()", x.fault(), 3);
        due("at(0, 1, 3)", x.at(0, 1, 3), LOST);
        due("fault(): refused", x.fault(), 0);
        x.at(0, -1, 1);
        due("at(4, 1, 1)", x.at(4, 1, 1), LOST);
        due("fault(): refused", x.fault(), 0);
        x.at(0, -1, 1);
        due("at(1, 1, -1)", x.at(1, 1, -1), LOST);
        due("fault(): refused", x.fault(), 0);
    }

    private static void promise6() {
        NeverBelow x = new NeverBelow();
        x.sheet(0, 0, 12);
        for (int i = 0; i < 12; i++) {
            x.put(0, i, i + 1);
        }
        due("poly(0, 0, 3, 9)", x.poly(0, 0, 3, 9), 0);
        dueTerms(x, 0, 4, 5, 6, 7, 8, 9, 10, 11, 12);
        due("poly(0, 0, 10, 2)", x.poly(0, 0, 10, 2), 1);
        dueTerms(x, 1, 11, 12);
        due("poly(0, 0, 12, 0)", x.poly(0, 0, 12, 0), 2);
        dueTerms(x, 2);
        x.put(0, 3, 100);
        due("term(0, 0): polynomials do not change", x.term(0, 0), 4);
        due("poly(-1, 3, 0, 10)", x.poly(-1, 3, 0, 10), UNKNOWN);
        due("poly(4, 0, 0, 1)", x.poly(4, 0, 0, 1), UNKNOWN);
        due("poly(0, 3, 0, 1)", x.poly(0, 3, 0, 1), OUTSIDE);
        due("poly(0, -1, 0, 1)", x.poly(0, -1, 0, 1), OUTSIDE);
        due("poly(0, 1, 0, 10): OUTSIDE ahead of CAST", x.poly(0, 1, 0, 10), OUTSIDE);
        due("fault()", x.fault(), 0);
        due("poly(0, 1, 0, -1): CAST ahead of SIZE", x.poly(0, 1, 0, -1), CAST);
        due("fault()", x.fault(), 2);
        due("poly(1, 1, 0, -1): NULL ahead of SIZE", x.poly(1, 1, 0, -1), NULL);
        due("fault()", x.fault(), 1);
        due("poly(0, 0, 99, -1): SIZE ahead of INDEX", x.poly(0, 0, 99, -1), SIZE);
        due("poly(0, 0, 0, LOW)", x.poly(0, 0, 0, LOW), SIZE);
        due("fault()", x.fault(), 4);
        due("poly(0, 0, 4, 9)", x.poly(0, 0, 4, 9), INDEX);
        due("poly(0, 0, 13, 0)", x.poly(0, 0, 13, 0), INDEX);
        due("poly(0, 0, -1, 0)", x.poly(0, 0, -1, 0), INDEX);
        due("poly(0, 0, -1, 9)", x.poly(0, 0, -1, 9), INDEX);
        due("poly(0, 0, HIGH, 9)", x.poly(0, 0, HIGH, 9), INDEX);
        due("poly(0, 0, LOW, 9)", x.poly(0, 0, LOW, 9), INDEX);
        due("fault()", x.fault(), 3);
        due("1000, -1000", make(x, 1000, -1000), 3);
        due("1001", make(x, 0, 1001), OUTSIDE);
        due("fault(): refused", x.fault(), 0);
        due("-1001", make(x, 0, -1001), OUTSIDE);
        due("a long whose int is 0", make(x, 4294967296L), OUTSIDE);
        due("told(0)", x.told(0), 4);
        fillPolynomials(x);
        due("poly(0, 0, 0, 9): 30 ever", x.poly(0, 0, 0, 9), FULL);
        due("OUTSIDE ahead of FULL", make(x, 1001), OUTSIDE);
        due("told(0)", x.told(0), 30);
    }

    private static void promise7() {
        NeverBelow x = new NeverBelow();
        make(x, 1, 2, 3, 4, 5, 6, 7, 8, 9);
        make(x, 10, -20, 30, -40, 50, -60, 70, -80, 90);
        due("add(0, 1, -2)", x.add(0, 1, -2), 2);
        dueTerms(x, 2, -19, 42, -57, 84, -95, 126, -133, 168, -171);
        due("add(1, 0, 0)", x.add(1, 0, 0), 3);
        due("same(1, 3)", x.same(1, 3), 1);
        due("add(0, 0, 110)", x.add(0, 0, 110), 4);
        due("term(4, 8)", x.term(4, 8), 999);
        due("add(0, 0, 111)", x.add(0, 0, 111), OUTSIDE);
        due("add(0, 0, -113)", x.add(0, 0, -113), OUTSIDE);
        make(x, 1);
        make(x);
        due("add(6, 5, 1000)", x.add(6, 5, 1000), 7);
        due("add(6, 5, -1000)", x.add(6, 5, -1000), 8);
        due("add(6, 6, 1001)", x.add(6, 6, 1001), OUTSIDE);
        due("add(6, 6, -1001)", x.add(6, 6, -1001), OUTSIDE);
        due("add(6, 6, LOW)", x.add(6, 6, LOW), OUTSIDE);
        due("add(9, 6, 1001)", x.add(9, 6, 1001), UNKNOWN);
        due("add(6, 9, 1)", x.add(6, 9, 1), UNKNOWN);
        due("add(-1, 6, 1)", x.add(-1, 6, 1), UNKNOWN);
        due("told(0)", x.told(0), 9);
        fillPolynomials(x);
        due("add(0, 0, 1)", x.add(0, 0, 1), FULL);
        due("add(0, 0, 111)", x.add(0, 0, 111), OUTSIDE);
    }

    private static void promise8() {
        NeverBelow x = new NeverBelow();
        make(x, 1, 2, 0, 3, 4);           // 1 + 2y + 3x + 4xy
        make(x, 5, 6, 0, 7, 8);           // 5 + 6y + 7x + 8xy
        due("times(0, 1)", x.times(0, 1), 2);
        dueTerms(x, 2, 5, 16, 12, 22, 60, 40, 21, 52, 32);
        make(x, 0, 0, 1);                 // yy
        make(x, 0, 0, 0, 0, 0, 0, 1);     // xx
        due("times(3, 4)", x.times(3, 4), 5);
        dueTerms(x, 5, 0, 0, 0, 0, 0, 0, 0, 0, 1);
        due("times(0, 3): y to the third", x.times(0, 3), STATE);
        due("times(0, 4): x to the third", x.times(0, 4), STATE);
        due("times(3, 3): y to the fourth", x.times(3, 3), STATE);
        due("times(4, 4): x to the fourth", x.times(4, 4), STATE);
        make(x, 100);
        make(x, 0, 10);
        due("times(6, 7)", x.times(6, 7), 8);
        dueTerms(x, 8, 0, 1000);
        make(x, 11);
        due("times(6, 9)", x.times(6, 9), OUTSIDE);
        make(x, 100, 0, 1);
        due("times(10, 10): OUTSIDE ahead of STATE", x.times(10, 10), OUTSIDE);
        make(x, 0, 0, 100);
        due("times(11, 11): the other TERM's number may be any", x.times(11, 11), STATE);
        make(x, 0, 1, 1);
        make(x, 0, 1, -1);
        due("times(12, 13): yy - yyyy", x.times(12, 13), STATE);
        due("times(14, 0)", x.times(14, 0), UNKNOWN);
        due("times(0, -1)", x.times(0, -1), UNKNOWN);
        fillPolynomials(x);
        due("times(0, 1)", x.times(0, 1), FULL);
        due("times(3, 3): STATE ahead of FULL", x.times(3, 3), STATE);
        due("times(6, 9): OUTSIDE ahead of FULL", x.times(6, 9), OUTSIDE);
    }

    private static void promise9() {
        NeverBelow x = new NeverBelow();
        make(x, 1, 2, 3, 4, 5, 6, 7, 8, 9);
        due("slope(0, 0)", x.slope(0, 0), 1);
        dueTerms(x, 1, 4, 5, 6, 14, 16, 18);
        due("slope(0, 1)", x.slope(0, 1), 2);
        dueTerms(x, 2, 2, 6, 0, 5, 12, 0, 8, 18);
        make(x, 0, 0, 500, 0, 0, 0, 501);
        due("slope(3, 1)", x.slope(3, 1), 4);
        dueTerms(x, 4, 0, 1000);
        due("slope(3, 0)", x.slope(3, 0), OUTSIDE);
        due("slope(3, 2)", x.slope(3, 2), OUTSIDE);
        due("slope(3, -1)", x.slope(3, -1), OUTSIDE);
        due("slope(5, 2)", x.slope(5, 2), UNKNOWN);
        due("slope(-1, 0)", x.slope(-1, 0), UNKNOWN);
        fillPolynomials(x);
        due("slope(0, 0)", x.slope(0, 0), FULL);
        due("slope(3, 0)", x.slope(3, 0), OUTSIDE);
    }

    private static void promise10() {
        NeverBelow x = new NeverBelow();
        make(x, 9, 8, 7, 6, 5, 4, 3, 2, 1);
        dueTerms(x, 0, 9, 8, 7, 6, 5, 4, 3, 2, 1);
        due("term(0, -1)", x.term(0, -1), LOST);
        due("term(0, 9)", x.term(0, 9), LOST);
        due("term(1, 0)", x.term(1, 0), LOST);
        due("term(-1, 0)", x.term(-1, 0), LOST);
    }

    private static void promise11() {
        NeverBelow x = new NeverBelow();
        make(x, 1, 2, 3, 4, 5, 6, 7, 8, 9);
        due("value(0, 0, 0)", x.value(0, 0, 0), VALUE_ONE);
        due("value(0, 256, 256)", x.value(0, 256, 256), 45 * VALUE_ONE);
        due("value(0, 512, -256)", x.value(0, 512, -256),
            (1 - 2 + 3 + 8 - 10 + 12 + 28 - 32 + 36) * VALUE_ONE);
        due("value(0, 1, 1)", x.value(0, 1, 1),
            VALUE_ONE + (2L << 24) + (3L << 16) + (4L << 24) + (5L << 16) + (6L << 8) + (7L << 16) + (8L << 8) + 9);
        make(x, -1000, -1000, -1000, -1000, -1000, -1000, -1000, -1000, -1000);
        due("value(1, 2048, 2048)", x.value(1, 2048, 2048), -1000L * 73 * 73 * VALUE_ONE);
        due("value(1, -2048, -2048)", x.value(1, -2048, -2048), -1000L * 57 * 57 * VALUE_ONE);
        due("value(0, 2049, 0)", x.value(0, 2049, 0), LOST);
        due("value(0, -2049, 0)", x.value(0, -2049, 0), LOST);
        due("value(0, 0, 2049)", x.value(0, 0, 2049), LOST);
        due("value(0, 0, -2049)", x.value(0, 0, -2049), LOST);
        due("value(2, 0, 0)", x.value(2, 0, 0), LOST);
        due("value(-1, 0, 0)", x.value(-1, 0, 0), LOST);
    }

    private static void promise12() {
        NeverBelow x = new NeverBelow();
        make(x, 1, 2, 3, 4, 5, 6, 7, 8, 9);
        make(x, 1, 2, 3, 4, 5, 6, 7, 8, 9);
        make(x, 1, 2, 3, 4, 5, 6, 7, 8, 8);
        make(x, 0, 2, 3, 4, 5, 6, 7, 8, 9);
        due("same(0, 0)", x.same(0, 0), 1);
        due("same(0, 1)", x.same(0, 1), 1);
        due("same(0, 2)", x.same(0, 2), 0);
        due("same(3, 0)", x.same(3, 0), 0);
        due("same(4, 0)", x.same(4, 0), UNKNOWN);
        due("same(0, 4)", x.same(0, 4), UNKNOWN);
        due("same(-1, -1)", x.same(-1, -1), UNKNOWN);
    }

    private static void promise13() {
        NeverBelow x = new NeverBelow();
        due("box(-2048, 2048, -2048, 2048)", x.box(-2048, 2048, -2048, 2048), 0);
        due("box(0, 1, 2, 3)", x.box(0, 1, 2, 3), 1);
        dueSides(x, 0, -2048, 2048, -2048, 2048);
        dueSides(x, 1, 0, 1, 2, 3);
        due("box(-2049, 0, 0, 1)", x.box(-2049, 0, 0, 1), OUTSIDE);
        due("box(0, 2049, 0, 1)", x.box(0, 2049, 0, 1), OUTSIDE);
        due("box(0, 1, -2049, 1)", x.box(0, 1, -2049, 1), OUTSIDE);
        due("box(0, 1, 0, 2049)", x.box(0, 1, 0, 2049), OUTSIDE);
        due("box(1, 1, 0, 1)", x.box(1, 1, 0, 1), OUTSIDE);
        due("box(0, 1, 1, 1)", x.box(0, 1, 1, 1), OUTSIDE);
        due("box(1, 0, 0, 1)", x.box(1, 0, 0, 1), OUTSIDE);
        due("box(0, 1, 1, 0)", x.box(0, 1, 1, 0), OUTSIDE);
        due("box(LOW, HIGH, LOW, HIGH)", x.box(LOW, HIGH, LOW, HIGH), OUTSIDE);
        for (int k = 2; k < 30; k++) {
            due("box " + k, x.box(k, k + 1, k, k + 2), k);
        }
        due("box(0, 1, 0, 1)", x.box(0, 1, 0, 1), FULL);
        due("box(1, 1, 0, 1): OUTSIDE ahead of FULL", x.box(1, 1, 0, 1), OUTSIDE);
        dueSides(x, 29, 29, 30, 29, 31);
    }

    private static void promise14() {
        NeverBelow x = new NeverBelow();
        x.box(-7, 11, 13, 17);
        dueSides(x, 0, -7, 11, 13, 17);
        due("side(0, -1)", x.side(0, -1), OUTSIDE);
        due("side(0, 4)", x.side(0, 4), OUTSIDE);
        due("side(1, 4)", x.side(1, 4), UNKNOWN);
        due("side(-1, 0)", x.side(-1, 0), UNKNOWN);
    }

    private static void promise15() {
        NeverBelow x = new NeverBelow();
        make(x, 1, 2, 3, 4, 5, 6, 7, 8, 9);
        x.box(0, 256, 0, 512);
        // y alone, y from 0 to 2: 1 2 3 -> 1, 3, 17; 4 5 6 -> 4, 9, 38; 7 8 9 -> 7, 15, 59
        long[] columns = {1, 3, 17, 4, 9, 38, 7, 15, 59};
        for (int j = 0; j < 3; j++) {
            long c = columns[j];
            long cx = columns[3 + j];
            long cxx = columns[6 + j];
            due("corner 0, " + j, x.corner(0, 0, j), c * ONE);
            due("corner 1, " + j, x.corner(0, 0, 3 + j), c * ONE + cx * (ONE / 2));
            due("corner 2, " + j, x.corner(0, 0, 6 + j), (c + cx + cxx) * ONE);
        }
        x.box(-1, 2, -3, 5);
        due("corner 0 is a value", x.corner(0, 1, 0), 4 * x.value(0, -1, -3));
        due("corner 2 is a value", x.corner(0, 1, 2), 4 * x.value(0, -1, 5));
        due("corner 6 is a value", x.corner(0, 1, 6), 4 * x.value(0, 2, -3));
        due("corner 8 is a value", x.corner(0, 1, 8), 4 * x.value(0, 2, 5));
        make(x, 0, 0, 0, 0, 0, 0, 0, 0, 1);
        due("corner 4 of xxyy", x.corner(1, 1, 4), 4L * (-1 * 2) * (-3 * 5));
        due("corner 1 of xxyy", x.corner(1, 1, 1), 4L * (-1 * -1) * (-3 * 5));
        due("corner 5 of xxyy", x.corner(1, 1, 5), 4L * (-1 * 2) * (5 * 5));
        make(x, 0, 0, 0, 0, 1);
        due("corner 4 of xy", x.corner(2, 1, 4), 65536L * (-1 + 2) * (-3 + 5));
        make(x, 1000, 1000, 1000, 1000, 1000, 1000, 1000, 1000, 1000);
        x.box(2047, 2048, 2047, 2048);
        due("the greatest one", x.corner(3, 2, 8), 1000L * 73 * 73 * ONE);
        due("corner(0, 0, -1)", x.corner(0, 0, -1), LOST);
        due("corner(0, 0, 9)", x.corner(0, 0, 9), LOST);
        due("corner(4, 0, 0)", x.corner(4, 0, 0), LOST);
        due("corner(0, 3, 0)", x.corner(0, 3, 0), LOST);
        due("corner(0, -1, 0)", x.corner(0, -1, 0), LOST);
        due("corner(-1, 0, 0)", x.corner(-1, 0, 0), LOST);
    }

    private static void promise16() {
        NeverBelow x = new NeverBelow();
        make(x, 0, 0, 0, 0, 0, 0, 1);         // xx: 1, -1, 1 on -1 .. 1
        x.box(-256, 256, 0, 256);
        due("bound(0, 0, 0)", x.bound(0, 0, 0), -ONE);
        due("bound(0, 0, 1)", x.bound(0, 0, 1), ONE);
        make(x, 0, 1, 0, 1);                  // x + y: the ends are the first and the last CORNER
        due("bound(1, 0, 0)", x.bound(1, 0, 0), -ONE);
        due("bound(1, 0, 1)", x.bound(1, 0, 1), 2 * ONE);
        make(x, 0, -1, 0, -1);
        due("bound(2, 0, 0)", x.bound(2, 0, 0), -2 * ONE);
        due("bound(2, 0, 1)", x.bound(2, 0, 1), ONE);
        x.box(0, 512, -256, 256);
        make(x, 0, 0, 1, 1);                  // x + yy: CORNER 1 alone is the least
        due("bound(3, 1, 0)", x.bound(3, 1, 0), -ONE);
        due("bound(3, 1, 1)", x.bound(3, 1, 1), 3 * ONE);
        make(x, 0, 0, -1, -1);                // -x - yy: CORNER 1 alone is the greatest
        due("bound(4, 1, 1)", x.bound(4, 1, 1), ONE);
        due("bound(4, 1, 0)", x.bound(4, 1, 0), -3 * ONE);
        due("bound(0, 0, 2)", x.bound(0, 0, 2), LOST);
        due("bound(0, 0, -1)", x.bound(0, 0, -1), LOST);
        due("bound(5, 0, 0)", x.bound(5, 0, 0), LOST);
        due("bound(0, 2, 0)", x.bound(0, 2, 0), LOST);
    }

    private static void promise17() {
        NeverBelow x = new NeverBelow();
        x.box(-7, 3, 2, 8);
        due("cut(0, 0)", x.cut(0, 0), 1);
        dueSides(x, 1, -7, -2, 2, 8);
        dueSides(x, 2, -2, 3, 2, 8);
        due("cut(0, 1)", x.cut(0, 1), 3);
        dueSides(x, 3, -7, 3, 2, 5);
        dueSides(x, 4, -7, 3, 5, 8);
        dueSides(x, 0, -7, 3, 2, 8);
        due("cut(1, 0): odd", x.cut(1, 0), STATE);
        due("cut(3, 1): odd", x.cut(3, 1), STATE);
        due("cut(1, 1)", x.cut(1, 1), 5);
        due("cut(0, 2)", x.cut(0, 2), OUTSIDE);
        due("cut(0, -1)", x.cut(0, -1), OUTSIDE);
        due("cut(7, 2)", x.cut(7, 2), UNKNOWN);
        due("cut(-1, 0)", x.cut(-1, 0), UNKNOWN);
        for (int k = 0; k < 29 && x.told(1) < 29; k++) {
            x.box(0, 1, 0, 1);
        }
        due("cut(0, 0): one more alone", x.cut(0, 0), FULL);
        due("told(1)", x.told(1), 29);
        due("cut(1, 0): STATE ahead of FULL", x.cut(1, 0), STATE);
        NeverBelow y = new NeverBelow();
        for (int k = 0; k < 28; k++) {
            y.box(0, 2, 0, 2);
        }
        due("cut(27, 1): the last two", y.cut(27, 1), 28);
        dueSides(y, 29, 0, 2, 1, 2);
        due("cut(27, 1)", y.cut(27, 1), FULL);
    }

    private static void promise18() {
        NeverBelow x = new NeverBelow();
        make(x, 1);
        make(x, -1);
        x.box(0, 4, 0, 8);
        x.box(1, 2, 3, 4);
        due("parts(0, 1)", x.parts(0, 1), 1);
        duePart(x, 0, 1, 2, 3, 4, 0);
        dueCounts(x, 1, 1, 0, 0, 0);
        due("parts(1, 0)", x.parts(1, 0), 1);
        duePart(x, 0, 0, 4, 0, 8, 0);
        x.cover(1);
        dueCounts(x, 1, 0, 0, 0, 1);
        due("parts(2, 0)", x.parts(2, 0), UNKNOWN);
        due("parts(0, 2)", x.parts(0, 2), UNKNOWN);
        due("parts(-1, -1)", x.parts(-1, -1), UNKNOWN);
        dueCounts(x, 1, 0, 0, 0, 1);
        due("parts(0, 0) anew", x.parts(0, 0), 1);
        dueCounts(x, 1, 1, 0, 0, 0);
        due("where(0)", x.where(0), NONE);
        due("least() of the new polynomial", x.least(), ONE);
    }

    private static void promise19() {
        NeverBelow x = new NeverBelow();
        make(x, 0, 0, 1, 0, -2, 0, 1);        // (x - y)(x - y)
        make(x, 1, 0, 0, 0, 0, 0, 4);         // 1 + 4xx
        x.box(-256, 256, -256, 256);
        due("cover(1): no PARTS", x.cover(1), STATE);
        due("cover(-1): OUTSIDE ahead of STATE", x.cover(-1), OUTSIDE);
        x.parts(1, 0);
        due("cover(501)", x.cover(501), OUTSIDE);
        due("cover(-1)", x.cover(-1), OUTSIDE);
        due("cover(0)", x.cover(0), 0);
        // 1 + 4xx on -1 .. 1: 5, -3, 5; on -1 .. 0: 5, 1, 1
        due("cover(1)", x.cover(1), 1);
        dueCounts(x, 2, 2, 0, 0, 0);
        duePart(x, 0, -256, 0, -256, 256, 0);
        duePart(x, 1, 0, 256, -256, 256, 0);
        due("cover(1)", x.cover(1), 1);
        dueCounts(x, 2, 1, 1, 0, 0);
        duePart(x, 0, -256, 0, -256, 256, 1);
        due("cover(500)", x.cover(500), 1);
        due("cover(500): none is OPEN", x.cover(500), 0);
        dueCounts(x, 2, 0, 2, 0, 0);
        promise19Cuts();
        x.parts(0, 0);
        int done = x.cover(500);
        due("as many PARTS as there may be", x.open(0), 40);
        due("each STEP cuts, shows or is STUCK", done, 39 + x.open(2) + x.open(3));
        due("cover(500): none was done", x.cover(500), FULL);
        due("cover(0): none was asked for", x.cover(0), 0);
        due("open(0)", x.open(0), 40);
        duePart(x, 0, -256, -255, -256, -255, 2);
    }

    /** Which way a PART is cut, and when it is STUCK. */
    private static void promise19Cuts() {
        NeverBelow x = new NeverBelow();
        make(x, 0, 0, 1, 0, -2, 0, 1);        // (x - y)(x - y): on a BOX about 0 one CORNER is below 0
        x.box(-2, 2, -4, 4);
        x.parts(0, 0);
        x.cover(1);
        duePart(x, 0, -2, 2, -4, 0, 0);       // higher than wide: y
        duePart(x, 1, -2, 2, 0, 4, 0);
        x.cover(1);
        duePart(x, 0, -2, 0, -4, 0, 0);       // as high as wide: x
        duePart(x, 1, 0, 2, -4, 0, 0);
        x.box(-2, 2, -4, 5);
        x.parts(0, 1);
        x.cover(1);
        duePart(x, 0, -2, 0, -4, 5, 0);       // its height is odd: x
        duePart(x, 1, 0, 2, -4, 5, 0);
        x.box(-4, 5, -1, 1);
        x.parts(0, 2);
        x.cover(1);
        duePart(x, 0, -4, 5, -1, 0, 0);       // its width is odd: y
        duePart(x, 1, -4, 5, 0, 1, 0);
        x.box(-4, 4, -2, 2);
        x.parts(0, 3);
        x.cover(1);
        duePart(x, 0, -4, 0, -2, 2, 0);       // wider than high: x
        x.box(-1, 2, -2, 1);
        x.parts(0, 4);
        due("cover(500): odd both ways", x.cover(500), 1);
        duePart(x, 0, -1, 2, -2, 1, 2);
        dueCounts(x, 1, 0, 0, 1, 0);
        x.box(0, 4, 0, 6);
        x.parts(0, 5);
        x.cover(500);
        due("STUCK ones do not hold the others up", x.open(1), 0);
        due("where(0)", x.where(0), NONE);
        make(x, -1, 0, 0, 1);                 // x - 1
        x.box(-256, 512, 0, 256);
        x.parts(1, 6);
        due("cover(500): it ends where one is BELOW", x.cover(500), 1);
        due("cover(500)", x.cover(500), 0);
        duePart(x, 0, -256, 512, 0, 256, 3);
    }

    private static void promise20() {
        NeverBelow x = new NeverBelow();
        make(x, 0, 0, 1, 0, -2, 0, 1);
        x.box(0, 4, 0, 6);
        x.parts(0, 0);
        x.cover(500);
        int shown = 0;
        int stuck = 0;
        for (int i = 0; i < x.open(0); i++) {
            shown += x.partly(i, 4) == 1 ? 1 : 0;
            stuck += x.partly(i, 4) == 2 ? 1 : 0;
        }
        dueCounts(x, shown + stuck, 0, shown, stuck, 0);
        due("some are SHOWN", shown > 0 ? 1 : 0, 1);
        due("some are STUCK", stuck > 0 ? 1 : 0, 1);
        due("open(-1)", x.open(-1), OUTSIDE);
        due("open(5)", x.open(5), OUTSIDE);
        make(x, -1);
        x.parts(1, 0);
        dueCounts(x, 1, 1, 0, 0, 0);
        x.cover(3);
        dueCounts(x, 1, 0, 0, 0, 1);
    }

    private static void promise21() {
        NeverBelow x = new NeverBelow();
        make(x, 1, 0, 0, 0, 0, 0, 4);
        x.box(-256, 256, -128, 64);
        due("partly(0, 0): no PARTS", x.partly(0, 0), UNKNOWN);
        x.parts(0, 0);
        x.cover(2);
        duePart(x, 0, -256, 0, -128, 64, 1);
        duePart(x, 1, 0, 256, -128, 64, 0);
        due("partly(0, 5)", x.partly(0, 5), OUTSIDE);
        due("partly(0, -1)", x.partly(0, -1), OUTSIDE);
        due("partly(2, 5)", x.partly(2, 5), UNKNOWN);
        due("partly(-1, 0)", x.partly(-1, 0), UNKNOWN);
    }

    private static void promise22() {
        NeverBelow x = new NeverBelow();
        x.box(-256, 256, -512, 512);
        long[][] only = {{2, 1, 0, 2}, {2, -1, 0, 2}, {2, 1, 0, -2}, {2, -1, 0, -2}};
        int[][] at = {{-256, -512}, {-256, 512}, {256, -512}, {256, 512}};
        for (int k = 0; k < 4; k++) {
            int p = make(x, only[k]);
            x.parts(p, 0);
            due("where(0) ahead of STEPS", x.where(0), NONE);
            due("cover(1)", x.cover(1), 1);
            due("where(0)", x.where(0), at[k][0]);
            due("where(1)", x.where(1), at[k][1]);
        }
        int everywhere = make(x, -1);
        x.parts(everywhere, 0);
        x.cover(9);
        due("where(0): the first corner", x.where(0), -256);
        due("where(1): the first corner", x.where(1), -512);
        int upper = make(x, 0, -1);           // -y: below 0 where y is above it: CORNER 2 ahead of CORNER 8
        x.parts(upper, 0);
        x.cover(9);
        due("where(0)", x.where(0), -256);
        due("where(1)", x.where(1), 512);
        int right = make(x, 0, 0, 0, -1);     // -x: CORNER 6 ahead of CORNER 8
        x.parts(right, 0);
        x.cover(9);
        due("where(0)", x.where(0), 256);
        due("where(1)", x.where(1), -512);
        due("where(2)", x.where(2), OUTSIDE);
        due("where(-1)", x.where(-1), OUTSIDE);
    }

    private static void promise23() {
        NeverBelow x = new NeverBelow();
        make(x, 1, 0, 0, 0, 0, 0, 4);         // 1 + 4xx
        make(x, 2, 0, 0, 1);                  // 2 + x
        x.box(-256, 256, -256, 256);
        due("least(): no PARTS", x.least(), LOST);
        x.parts(0, 0);
        due("least()", x.least(), -3 * ONE);
        x.cover(1);
        due("least() of both halves", x.least(), ONE);
        x.parts(1, 0);
        due("least()", x.least(), ONE);
        make(x, 0, 0, 0, -1);                 // -x: the least is in the last PART
        x.parts(2, 0);
        due("least()", x.least(), -ONE);
        make(x, 0, 0, 1, 0, -2, 0, 1);
        x.parts(3, 0);
        x.cover(7);
        long least = Long.MAX_VALUE;
        for (int i = 0; i < x.open(0); i++) {
            x.box(x.partly(i, 0), x.partly(i, 1), x.partly(i, 2), x.partly(i, 3));
            least = Math.min(least, x.bound(3, x.told(1) - 1, 0));
        }
        due("least() of all PARTS", x.least(), least);
        x.parts(0, 0);
        x.cover(1);
        make(x, 1, 0, 0, -1);                 // 1 - x, on the left half alone
        x.parts(4, x.box(-256, 0, -256, 256));
        due("least(): nothing of the PARTS ahead", x.least(), ONE);
    }

    private static void promise24() {
        NeverBelow x = new NeverBelow();
        make(x, 1, 2, 3, 4, 5, 0, 7);
        long[] want = {14, 5, 4, 5, 6, 2, 4, 2, 2};
        for (int k = 0; k < 9; k++) {
            due("form(0, " + k / 3 + ", " + k % 3 + ")", x.form(0, k / 3, k % 3), want[k]);
        }
        make(x, 0, 0, 0, 0, 0, 1);
        make(x, 0, 0, 0, 0, 0, 0, 0, 1);
        make(x, 0, 0, 0, 0, 0, 0, 0, 0, 1);
        for (int p = 1; p < 4; p++) {
            due("form(" + p + ", 0, 0): another TERM", x.form(p, 0, 0), LOST);
        }
        due("form(0, 3, 0)", x.form(0, 3, 0), LOST);
        due("form(0, 0, 3)", x.form(0, 0, 3), LOST);
        due("form(0, -1, 0)", x.form(0, -1, 0), LOST);
        due("form(0, 0, -1)", x.form(0, 0, -1), LOST);
        due("form(4, 0, 0)", x.form(4, 0, 0), LOST);
        due("form(-1, 0, 0)", x.form(-1, 0, 0), LOST);
    }

    private static void promise25() {
        NeverBelow x = new NeverBelow();
        make(x, 3, 1, 2, 1, 1, 0, 1);
        // 2 1 1, 1 4 1, 1 1 6; then d = 2: 7 1, 1 11; then d = 7: (77 - 1) by 2 = 38
        due("squares(0)", x.squares(0), 0);
        dueNumbers(x, 0, 1, 4, 2, 1, 1, 1, 28, 0, 7, 1, 1, 532, 0, 0, 38);
        due("proof(0, 0)", x.proof(0, 0), 0);
        due("proof(0, 3)", x.proof(0, 3), 3);
        make(x, 5, 0, 1);                     // no x: row 0 is passed over
        due("squares(1)", x.squares(1), 1);
        dueNumbers(x, 1, 1, 4, 0, 2, 0, 1, 80, 0, 0, 20);
        make(x, 1, 0, 0, 2, 0, 0, 1);         // (x + 1)(x + 1)
        due("squares(2)", x.squares(2), 2);
        dueNumbers(x, 2, 1, 4, 2, 0, 2);
        make(x);
        due("squares(3)", x.squares(3), 3);
        dueNumbers(x, 3);
        make(x, 1000, 0, 1000, 0, 0, 0, 1000);
        due("squares(4): the greatest ones", x.squares(4), 4);
        dueNumbers(x, 4, 1, 4000, 2000, 0, 0, 1, 16000000000L, 0, 4000000, 0,
            1, 64000000000000000L, 0, 0, 8000000000L);
        int below = make(x, 0, 0, 0, 0, 0, 0, -1);
        int lineX = make(x, 1, 0, 1, 1);      // d is 0, the row is not
        int lineY = make(x, 1, 1, 0, 0, 0, 0, 1);
        int saddle = make(x, 1, 0, 1, 0, 3, 0, 1);
        int deep = make(x, -1, 0, 1, 0, 0, 0, 1);
        for (int p = below; p <= deep; p++) {
            due("squares(" + p + ")", x.squares(p), NONE);
        }
        due("told(0)", deep, saddle + 1);
        due("rows", lineY, lineX + 1);
        for (int t = 5; t < 9; t++) {
            if (t != 6) {
                long[] terms = new long[9];
                terms[t] = 1;
                terms[6] = -1;
                due("TERM " + t, x.squares(make(x, terms)), STATE);
            }
        }
        due("squares(99)", x.squares(99), UNKNOWN);
        due("squares(-1)", x.squares(-1), UNKNOWN);
        due("told(2)", x.told(2), 5);
        fillProofs(x, 3);
        due("squares(0)", x.squares(0), FULL);
        due("squares(below): NONE ahead of FULL", x.squares(below), NONE);
        due("told(2)", x.told(2), 40);
    }

    private static void promise26() {
        NeverBelow x = new NeverBelow();
        make(x, 0, 0, 0, 1);                  // x
        x.box(0, 256, 0, 256);
        x.box(-256, 256, 0, 256);
        due("corners(0, 0)", x.corners(0, 0), 0);
        dueNumbers(x, 0, 0, 0, 0, ONE / 2, ONE / 2, ONE / 2, ONE, ONE, ONE);
        due("proof(0, 0)", x.proof(0, 0), 1);
        due("corners(0, 1)", x.corners(0, 1), NONE);
        make(x, 0, 0, 0, 0, 0, 0, 1);         // xx: the middle ones are below 0
        due("corners(1, 1)", x.corners(1, 1), NONE);
        due("corners(1, 0)", x.corners(1, 0), 1);
        due("corners(2, 0)", x.corners(2, 0), UNKNOWN);
        due("corners(0, 2)", x.corners(0, 2), UNKNOWN);
        due("corners(-1, 0)", x.corners(-1, 0), UNKNOWN);
        fillProofs(x, 1);
        due("corners(0, 0)", x.corners(0, 0), FULL);
        due("corners(0, 1): NONE ahead of FULL", x.corners(0, 1), NONE);
    }

    private static void promise27() {
        NeverBelow x = new NeverBelow();
        make(x, 1, 0, 0, 0, 0, 0, 4);
        make(x, 0, 0, 1, 0, -2, 0, 1);
        make(x, -1);
        x.box(0, 1, 0, 1);
        x.box(-256, 256, -256, 256);
        x.box(-1, 2, -2, 1);
        due("proved(): no PARTS", x.proved(), STATE);
        x.parts(0, 1);
        due("proved(): OPEN", x.proved(), STATE);
        x.cover(2);
        due("proved(): one is OPEN", x.proved(), STATE);
        x.cover(1);
        due("proved()", x.proved(), 0);
        dueNumbers(x, 0, -256, 0, -256, 256, 0, 256, -256, 256);
        due("proof(0, 0)", x.proof(0, 0), 2);
        due("proof(0, 1)", x.proof(0, 1), 0);
        due("proof(0, 3)", x.proof(0, 3), 2);
        due("proof(0, 4)", x.proof(0, 4), 1);
        x.parts(1, 2);
        x.cover(9);
        due("proved(): STUCK", x.proved(), STATE);
        x.parts(2, 0);
        x.cover(9);
        due("proved(): BELOW", x.proved(), STATE);
        dueNumbers(x, 0, -256, 0, -256, 256, 0, 256, -256, 256);
        x.parts(0, 0);
        x.cover(9);
        fillProofs(x, 0);
        due("proved()", x.proved(), FULL);
        x.parts(0, 1);
        due("proved(): STATE ahead of FULL", x.proved(), STATE);
    }

    private static void promise28() {
        NeverBelow x = new NeverBelow();
        // 2 (x + 1)(2 - x) + (x + y + 1)(x + y + 1) = -2xx + 2x + 4 + xx + 2xy + yy + 2x + 2y + 1
        make(x, 5, 2, 1, 4, 2, 0, -1);
        due("span(0, 2, 1, -256, 512)", x.span(0, 2, 1, -256, 512), 0);
        dueNumbers(x, 0, 1, 4, 2, 2, 2, 2, 1, -256, 512);
        due("proof(0, 0)", x.proof(0, 0), 3);
        due("proof(0, 1)", x.proof(0, 1), 0);
        due("proof(0, 3)", x.proof(0, 3), 1);
        due("span(0, 6, 3, -256, 512): as told", x.span(0, 6, 3, -256, 512), 1);
        dueNumbers(x, 1, 1, 4, 2, 2, 2, 6, 3, -256, 512);
        due("span(0, 1, 1, -256, 512)", x.span(0, 1, 1, -256, 512), NONE);
        due("span(0, 3, 2, -256, 512): m by n", x.span(0, 3, 2, -256, 512), STATE);
        due("span(0, 1, 2, 0, 512): m by n alone", x.span(0, 1, 2, 0, 512), STATE);
        due("span(0, 1, 1, 0, 128): of x alone", x.span(0, 1, 1, 0, 128), STATE);
        due("span(0, 2, 1, -256, 511): of x", x.span(0, 2, 1, -256, 511), STATE);
        due("span(0, 1, 1, -128, 384): of 1", x.span(0, 1, 1, -128, 384), STATE);
        int half = make(x, 1, 0, 0, 0, 0, 0, -4);   // 4 (x + 1/2)(1/2 - x) = 1 - 4xx
        due("span of halves", x.span(half, 4, 1, -128, 128), 2);
        dueNumbers(x, 2, 4, 1, -128, 128);
        due("span(0, 0, 1, 0, 256)", x.span(0, 0, 1, 0, 256), OUTSIDE);
        due("span(0, 1001, 1, 0, 256)", x.span(0, 1001, 1, 0, 256), OUTSIDE);
        due("span(0, 1, 0, 0, 256)", x.span(0, 1, 0, 0, 256), OUTSIDE);
        due("span(0, 1, 1001, 0, 256)", x.span(0, 1, 1001, 0, 256), OUTSIDE);
        due("span(0, -1, -1, 0, 256)", x.span(0, -1, -1, 0, 256), OUTSIDE);
        due("span(0, 1, 1, -2049, 256)", x.span(0, 1, 1, -2049, 256), OUTSIDE);
        due("span(0, 1, 1, 0, 2049)", x.span(0, 1, 1, 0, 2049), OUTSIDE);
        due("span(0, 1, 1, 256, 256)", x.span(0, 1, 1, 256, 256), OUTSIDE);
        due("span(0, 1, 1, 257, 256)", x.span(0, 1, 1, 257, 256), OUTSIDE);
        due("span(2, 0, 0, 1, 0)", x.span(2, 0, 0, 1, 0), UNKNOWN);
        due("span(-1, 1, 1, 0, 256)", x.span(-1, 1, 1, 0, 256), UNKNOWN);
        promise28Coefficients();
        int other = make(x, 5, 2, 1, 4, 2, 1, -1);
        due("another TERM", x.span(other, 2, 1, -256, 512), STATE);
        due("told(2)", x.told(2), 3);
        fillProofs(x, make(x));
        due("span(0, 2, 1, -256, 512)", x.span(0, 2, 1, -256, 512), FULL);
        due("span(0, 1, 1, -256, 512): NONE ahead of FULL", x.span(0, 1, 1, -256, 512), NONE);
        due("span(0, 3, 2, -256, 512): STATE ahead of FULL", x.span(0, 3, 2, -256, 512), STATE);
    }

    /** COEFFICIENTS of what is left that reach 1000, and those beyond. */
    private static void promise28Coefficients() {
        NeverBelow x = new NeverBelow();
        int none = make(x);
        int one = make(x, 0, 0, 0, 0, 0, 0, 1);
        due("x x 1000", x.span(none, 1000, 1, 0, 256), NONE);
        due("x x 1001", x.span(one, 1000, 1, 0, 256), STATE);
        due("1 beyond 1000", x.span(none, 1000, 1, 512, 768), STATE);
        due("1 at 1000", x.span(none, 1000, 1000, 256, 512), NONE);
        int high = make(x, 984, 0, 0, 12, 0, 0, 0);
        due("1 at 1000, of 16", x.span(high, 1, 1, 512, 2048), 0);
        due("1 beyond 1000, of 24", x.span(high, 1, 1, 768, 2048), STATE);
        int low = make(x, 0, 0, 0, -997);
        due("x at -1000", x.span(low, 1, 1, 256, 512), NONE);
        due("x beyond -1000", x.span(low, 1, 1, 256, 768), STATE);
    }

    private static void promise29() {
        NeverBelow x = new NeverBelow();
        make(x, 7);
        make(x, 3, 1, 2, 1, 1, 0, 1);
        make(x, 2, 1, 0, 0, 0, 0, 0, 0, 1);
        make(x, 0, 0, 0, 3, 0, 0, -1);        // x (3 - x)
        x.box(0, 1, 0, 1);
        x.box(0, 256, 0, 256);
        x.squares(1);
        x.corners(2, 1);
        x.parts(2, 1);
        x.cover(9);
        x.proved();
        x.span(3, 1, 1, 0, 768);
        int[][] want = {{0, 1, 15, 3, NONE}, {1, 2, 9, 0, 1}, {2, 2, 4, 1, 1}, {3, 3, 4, 0, NONE}};
        for (int q = 0; q < 4; q++) {
            for (int what = 0; what < 5; what++) {
                due("proof(" + q + ", " + what + ")", x.proof(q, what), want[q][what]);
            }
            due("proof(q, 5)", x.proof(q, 5), OUTSIDE);
            due("proof(q, -1)", x.proof(q, -1), OUTSIDE);
        }
        due("proof(4, 5)", x.proof(4, 5), UNKNOWN);
        due("proof(-1, 0)", x.proof(-1, 0), UNKNOWN);
    }

    private static void promise30() {
        NeverBelow x = new NeverBelow();
        make(x, 1, 0, 0, 2, 0, 0, 1);
        x.squares(0);
        dueNumbers(x, 0, 1, 4, 2, 0, 2);
        due("number(0, -1)", x.number(0, -1), LOST);
        due("number(1, 0)", x.number(1, 0), LOST);
        due("number(-1, 0)", x.number(-1, 0), LOST);
        due("number(0, HIGH)", x.number(0, HIGH), LOST);
    }

    private static void promise31() {
        NeverBelow x = new NeverBelow();
        make(x, 1, 0, 0, 2, 0, 0, 1);
        make(x, 0, 0, 0, 3, 0, 0, -1);
        x.box(0, 256, 0, 256);
        x.squares(0);
        x.corners(0, 0);
        x.parts(0, 0);
        x.cover(9);
        x.proved();
        x.span(1, 1, 1, 0, 768);
        for (int q = 0; q < 4; q++) {
            due("forge(" + q + ", 3, 1000000000)", x.forge(q, 3, 1000000000L), 1);
            due("number", x.number(q, 3), 1000000000L);
            due("forge(" + q + ", 3, -1000000000)", x.forge(q, 3, -1000000000L), 1);
            due("number", x.number(q, 3), -1000000000L);
            long any = q == 1 ? 1 : OUTSIDE;
            due("forge(" + q + ", 3, 1000000001)", x.forge(q, 3, 1000000001L), any);
            due("forge(" + q + ", 3, -1000000001)", x.forge(q, 3, -1000000001L), any);
            due("forge(" + q + ", 3, LOST)", x.forge(q, 3, LOST), any);
            due("number", x.number(q, 3), q == 1 ? LOST : -1000000000L);
            due("forge(" + q + ", -1, LOST)", x.forge(q, -1, LOST), UNKNOWN);
            due("forge behind the last", x.forge(q, x.proof(q, 2), LOST), UNKNOWN);
        }
        due("forge(4, 0, LOST)", x.forge(4, 0, LOST), UNKNOWN);
        due("forge(-1, 0, 1)", x.forge(-1, 0, 1), UNKNOWN);
        x.corners(0, 0);
        due("number of a new PROOF", x.number(4, 3), 2 * ONE);
    }

    private static void promise32() {
        NeverBelow x = new NeverBelow();
        due("check(0)", x.check(0), UNKNOWN);
        due("check(-1)", x.check(-1), UNKNOWN);
        promise32Squares();
        promise32Great();
        promise32Span();
        promise32Boxes();
    }

    private static void dueForged(NeverBelow x, int q, int i, long v, long want) {
        long was = x.number(q, i);
        due("forge(" + q + ", " + i + ", " + v + ")", x.forge(q, i, v), 1);
        due("check(" + q + ") with number " + i + " " + v, x.check(q), want);
        x.forge(q, i, was);
    }

    private static void promise32Squares() {
        NeverBelow x = new NeverBelow();
        make(x, 3, 1, 2, 1, 1, 0, 1);
        x.squares(0);                         // 1, 4, 2 1 1; 1, 28, 0 7 1; 1, 532, 0 0 38
        due("check(0)", x.check(0), 1);
        dueForged(x, 0, 0, 0, -29);
        dueForged(x, 0, 1, 0, -29);
        dueForged(x, 0, 10, -1, -29);
        dueForged(x, 0, 11, -532, -29);
        dueForged(x, 0, 0, 2, -20);
        dueForged(x, 0, 2, 3, -23);           // of x: TERMS 3, 4, 6
        dueForged(x, 0, 2, -2, -23);
        dueForged(x, 0, 3, 2, -21);           // of y: TERMS 1, 2, 4
        dueForged(x, 0, 4, 2, -20);           // of 1: TERMS 0, 1, 3
        dueForged(x, 0, 7, 5, -23);           // of x in the second one: TERM 3 is the first
        dueForged(x, 0, 14, -38, 1);          // a square's sign is lost
        dueForged(x, 0, 12, 1, -23);
        due("check(0) as it was", x.check(0), 1);
        x.forge(0, 0, 7);
        x.forge(0, 1, 28);
        due("check(0) with a WEIGHT that is the same", x.check(0), 1);
        make(x, 0, 0, 1, 0, 0, 0, 1);
        x.squares(1);                         // 1, 4, 2 0 0; 1, 16, 0 4 0
        dueForged(x, 1, 3, 1, -22);
        dueForged(x, 1, 7, 1, -24);
        dueForged(x, 1, 2, 4, -26);
        make(x);
        x.squares(2);
        due("check(2): no SQUARES of 0", x.check(2), 1);
    }

    /** WEIGHTS and squares that no long holds when they are multiplied out. */
    private static void promise32Great() {
        NeverBelow x = new NeverBelow();
        make(x, 1000, 0, 1000, 0, 0, 0, 1000);
        x.squares(0);
        due("check(0)", x.check(0), 1);
        dueForged(x, 0, 4, 1, -20);
        dueForged(x, 0, 3, 1, -22);
        make(x, 997, 3, 991, -7, 11, 0, 983);
        x.squares(1);
        due("check(1)", x.check(1), 1);
        dueForged(x, 1, 13, 1, -21);
        make(x, 1);
        x.squares(2);                         // 1, 4, 0 0 2
        x.forge(2, 0, 1000000000L);
        x.forge(2, 1, 1000000000L);
        x.forge(2, 4, 1);
        due("check(2)", x.check(2), 1);
        x.forge(2, 0, 999999999L);
        due("check(2): not quite", x.check(2), -20);
        x.forge(2, 0, 1);
        x.forge(2, 4, 1000000000L);
        due("check(2): 1000000000 is not 1", x.check(2), -20);
        make(x);
        x.squares(3);
        make(x, 0, 0, 0, 0, 0, 0, 1);
        x.squares(4);                         // 1, 4, 2 0 0
        // 2 to the 29th thrice times 2 to the 9th: all that wraps away at 64 bits
        x.forge(4, 0, 536870912L);
        x.forge(4, 2, 536870912L);
        x.forge(4, 4, 536870912L);
        due("check(4)", x.check(4), -20);
    }

    private static void promise32Span() {
        NeverBelow x = new NeverBelow();
        make(x, 5, 2, 1, 4, 2, 0, -1);
        x.span(0, 2, 1, -256, 512);           // 1, 4, 2 2 2; 2, 1, -256, 512
        due("check(0)", x.check(0), 1);
        dueForged(x, 0, 0, 0, -29);
        dueForged(x, 0, 1, -4, -29);
        dueForged(x, 0, 5, 0, -29);
        dueForged(x, 0, 5, -2, -29);
        dueForged(x, 0, 6, 0, -29);
        dueForged(x, 0, 5, 3, -20);
        dueForged(x, 0, 6, 2, -20);
        dueForged(x, 0, 7, -255, -20);
        dueForged(x, 0, 8, 513, -20);
        dueForged(x, 0, 3, 1, -21);
        x.forge(0, 7, 512);
        x.forge(0, 8, -256);
        due("check(0): a and b the other way", x.check(0), 1);
        x.forge(0, 5, 400000000L);
        x.forge(0, 6, 200000000L);
        due("check(0): the same WEIGHT", x.check(0), 1);
        make(x, 0, 0, 0, 3, 0, 0, -1);
        x.span(1, 1, 1, 0, 768);
        due("check(1): no SQUARES", x.check(1), 1);
        dueForged(x, 1, 3, 769, -23);         // a is 0: TERM 0 stays
        dueForged(x, 1, 3, -1000000000L, -23);
        dueForged(x, 1, 0, 2, -23);
        make(x, 1, 0, 0, 0, 0, 0, -1);
        x.span(2, 1, 1, -256, 256);
        due("check(2)", x.check(2), 1);
        x.forge(2, 2, -512);
        x.forge(2, 3, 128);
        due("check(2): a b is the same", x.check(2), -23);
    }

    private static void promise32Boxes() {
        NeverBelow x = new NeverBelow();
        make(x, 1, 0, 0, 0, 0, 0, 4);
        make(x, 0, 0, 0, 1);
        make(x, 2, 0, 0, 0, -3, 0, 1, 0, 1);
        x.box(0, 256, 0, 256);
        x.box(-256, 256, -256, 256);
        x.box(-512, 512, -512, 512);
        x.corners(1, 0);
        x.bound(0, 1, 0);
        due("check(0)", x.check(0), 1);
        x.corners(1, 1);
        due("check(0)", x.check(0), 1);
        for (int k = 0; k < 9; k++) {
            dueForged(x, 0, k, x.number(0, k) + 1, -20 - k);
            dueForged(x, 0, k, -1, -20 - k);
            dueForged(x, 0, k, LOST, -20 - k);
        }
        x.forge(0, 7, 5);
        x.forge(0, 2, 5);
        due("check(0): the first one", x.check(0), -22);
        x.parts(0, 1);
        x.cover(9);
        x.proved();
        due("check(1)", x.check(1), 1);
        for (int i = 0; i < 8; i++) {
            dueForged(x, 1, i, x.number(1, i) + 1, -20 - i / 4);
        }
        x.parts(2, 2);
        x.cover(500);
        x.proved();
        int pieces = x.proof(2, 3);
        due("PARTS of it", pieces, 12);
        due("check(2)", x.check(2), 1);
        dueForged(x, 2, 4 * pieces - 1, 0, -20 - (pieces - 1));
        dueForged(x, 2, 20, 1000000000L, -25);
        x.parts(0, 0);
        x.cover(1);
        int open = x.open(0);
        due("check(2): whatever PARTS there are now", x.check(2), 1);
        due("check leaves PARTS as they are", x.open(0), open);
        duePart(x, 0, 0, 256, 0, 256, 1);
    }

    private static void promise33() {
        NeverBelow x = new NeverBelow();
        make(x, 1, 0, 0, 2, 0, 0, 1);
        make(x, 0, 0, 0, 3, 0, 0, -1);
        x.box(0, 256, 0, 256);
        x.squares(0);
        x.corners(0, 0);
        x.parts(0, 0);
        x.cover(9);
        x.proved();
        x.span(1, 1, 1, 0, 768);
        int[][] want = {{1, CAST, CAST, CAST, 1}, {CAST, 1, CAST, CAST, 1}, {CAST, 1, 1, CAST, 1}, {1, CAST, CAST, 1, 1}};
        for (int q = 0; q < 4; q++) {
            for (int kind = 0; kind < 5; kind++) {
                due("as(" + q + ", " + kind + ")", x.as(q, kind), want[q][kind]);
                due("fault()", x.fault(), want[q][kind] == 1 ? 0 : 2);
            }
        }
        x.as(0, 1);
        due("as(0, 5)", x.as(0, 5), OUTSIDE);
        due("fault(): refused", x.fault(), 0);
        x.as(0, 1);
        due("as(0, -1)", x.as(0, -1), OUTSIDE);
        due("fault(): refused", x.fault(), 0);
        x.as(0, 1);
        due("as(4, 5)", x.as(4, 5), UNKNOWN);
        due("fault(): refused", x.fault(), 0);
        due("as(-1, 0)", x.as(-1, 0), UNKNOWN);
    }

    /** An object with a PROOF of each kind, by its number: SQUARES of 10, CORNERS, PARTS of 8, SPAN of 9 numbers. */
    private static NeverBelow withAllKinds() {
        NeverBelow x = new NeverBelow();
        make(x, 5, 0, 0, 0, 0, 0, 4);
        make(x, 5, 2, 1, 4, 2, 0, -1);
        x.box(0, 256, 0, 256);
        x.box(-512, 512, -256, 256);
        x.squares(0);
        x.corners(0, 0);
        x.parts(0, 1);
        x.cover(9);
        x.proved();
        x.span(1, 2, 1, -256, 512);
        return x;
    }

    private static void promise34() {
        NeverBelow x = withAllKinds();
        due("tell(0)", x.tell(0), 10);
        due("trace()", x.trace(), 1);
        due("tell(1)", x.tell(1), 18);
        due("trace()", x.trace(), (1 * 31 + 3) * 31 + 1);
        due("tell(2)", x.tell(2), 8);
        int trace = (((1055 * 31 + 4) * 31) + 3) * 31 + 1;
        due("trace()", x.trace(), trace);
        due("tell(3)", x.tell(3), 18);
        trace = (trace * 31 + 2) * 31 + 1;
        due("trace()", x.trace(), trace);
        due("tell(4)", x.tell(4), UNKNOWN);
        due("tell(-1)", x.tell(-1), UNKNOWN);
        due("trace()", x.trace(), trace);
    }

    private static void promise35() {
        NeverBelow x = withAllKinds();
        due("cost(0)", x.cost(0), 110);
        due("trace()", x.trace(), 5);
        due("cost(1)", x.cost(1), 7);
        due("trace()", x.trace(), 161);
        due("cost(2)", x.cost(2), 7);
        due("trace()", x.trace(), 161 * 31 + 6);
        due("cost(3)", x.cost(3), 109);
        due("trace()", x.trace(), (161 * 31 + 6) * 31 + 5);
        due("cost(4)", x.cost(4), UNKNOWN);
        due("cost(-1)", x.cost(-1), UNKNOWN);
        due("trace()", x.trace(), (161 * 31 + 6) * 31 + 5);
    }

    private static void promise36() {
        NeverBelow x = withAllKinds();
        due("trace()", x.trace(), 0);
        x.check(0);
        x.as(1, 1);
        due("trace(): only tell and cost leave anything", x.trace(), 0);
        int trace = 0;
        for (int k = 0; k < 20; k++) {
            x.cost(1);
            trace = 31 * trace + 6;
            due("trace() wraps", x.trace(), trace);
        }
    }

    private static void promise37() {
        NeverBelow x = new NeverBelow();
        due("fault()", x.fault(), 0);
        x.put(0, 0, 0);
        due("fault()", x.fault(), 1);
        x.told(9);
        x.lose(0);
        x.add(0, 0, 0);
        x.times(0, 0);
        x.slope(0, 0);
        x.term(0, 0);
        x.value(0, 0, 0);
        x.same(0, 0);
        x.box(0, 1, 0, 1);
        x.side(0, 0);
        x.corner(0, 0, 0);
        x.bound(0, 0, 0);
        x.cut(0, 0);
        x.parts(0, 0);
        x.cover(1);
        x.open(0);
        x.partly(0, 0);
        x.where(0);
        x.least();
        x.form(0, 0, 0);
        x.squares(0);
        x.corners(0, 0);
        x.proved();
        x.span(0, 1, 1, 0, 1);
        x.proof(0, 0);
        x.number(0, 0);
        x.forge(0, 0, 0);
        x.check(0);
        x.tell(0);
        x.cost(0);
        x.trace();
        x.fault();
        due("fault(): none of these names one", x.fault(), 1);
        x.sheet(0, 0, 1);
        due("fault()", x.fault(), 0);
        x.put(0, 1, 0);
        due("fault()", x.fault(), 3);
        x.poly(9, 0, 0, 0);
        due("fault()", x.fault(), 0);
        x.sheet(0, 0, -1);
        due("fault()", x.fault(), 4);
        x.as(0, 0);
        due("fault()", x.fault(), 0);
        x.at(0, 0, 1);
        due("fault()", x.fault(), 2);
        x.at(0, 0, 0);
        due("fault()", x.fault(), 0);
    }

    private static void promise38() {
        NeverBelow x = withAllKinds();
        due("told(0)", x.told(0), 2);
        due("told(1)", x.told(1), 2);
        due("told(2)", x.told(2), 4);
        x.cut(0, 0);
        due("told(1)", x.told(1), 4);
        due("told(-1)", x.told(-1), OUTSIDE);
        due("told(3)", x.told(3), OUTSIDE);
    }

    private static void firstHalf() {
        promise = 1; promise1();
        promise = 2; promise2();
        promise = 3; promise3();
        promise = 4; promise4();
        promise = 5; promise5();
        promise = 6; promise6();
        promise = 7; promise7();
        promise = 8; promise8();
        promise = 9; promise9();
        promise = 10; promise10();
        promise = 11; promise11();
        promise = 12; promise12();
        promise = 13; promise13();
        promise = 14; promise14();
        promise = 15; promise15();
        promise = 16; promise16();
        promise = 17; promise17();
        promise = 18; promise18();
        promise = 19; promise19();
    }

    private static void secondHalf() {
        promise = 20; promise20();
        promise = 21; promise21();
        promise = 22; promise22();
        promise = 23; promise23();
        promise = 24; promise24();
        promise = 25; promise25();
        promise = 26; promise26();
        promise = 27; promise27();
        promise = 28; promise28();
        promise = 29; promise29();
        promise = 30; promise30();
        promise = 31; promise31();
        promise = 32; promise32();
        promise = 33; promise33();
        promise = 34; promise34();
        promise = 35; promise35();
        promise = 36; promise36();
        promise = 37; promise37();
        promise = 38; promise38();
    }

    public static void main(String[] args) {
        firstHalf();
        secondHalf();
        System.out.println(asked + " answers asked for, " + wrong + " are not as due");
        if (wrong != 0) {
            System.exit(1);
        }
    }
}
