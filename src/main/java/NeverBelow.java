import java.util.Arrays;

/**
 * A bench that shows polynomials in two unknowns never to fall below nought, or tells where they do.
 * The words in capitals are those of the document's terms.
 */
public final class NeverBelow {
    public static final int UNKNOWN = -1, OUTSIDE = -2, STATE = -3, FULL = -4, NONE = -9;
    public static final long LOST = Long.MIN_VALUE;

    private static final int FAULT_NULL = 1, FAULT_CAST = 2, FAULT_INDEX = 3, FAULT_SIZE = 4;
    private static final int SHEETS = 4, LANES = 3, LONGEST_SHEET = 30;
    private static final int MOST_POLYNOMIALS = 30, MOST_BOXES = 30, MOST_PARTS = 40, MOST_PROOFS = 40;
    private static final int TERMS = 9, SIDES = 4, MOST_STEPS = 500;
    private static final int FURTHEST = 2048, LARGEST_COEFFICIENT = 1000, LARGEST_WEIGHT = 1000;
    private static final long LARGEST_FORGED = 1000000000L;
    private static final int OPEN = 0, SHOWN = 1, STUCK = 2, BELOW = 3;
    private static final int SQUARES = 0, CORNERS = 1, PARTS = 2, SPAN = 3, ANY = 4;
    private static final int RIGHT = 1, WRONG = -20, WEIGHT_WRONG = 9;
    private static final int NUMBERS_OF_SQUARE = 5, NUMBERS_OF_SPAN = 4;

    /** The CORNERS that are values at a BOX's own corners. */
    private static final int[] OWN_CORNERS = {0, 2, 6, 8};
    /** The TERM behind each number of THE FORM, row by row. */
    private static final int[] TERM_OF_FORM = {6, 4, 3, 4, 2, 1, 3, 1, 0};
    /** Which two of x, y, 1 (0, 1, 2) make a TERM when a SQUARE is multiplied out; -1: none do. */
    private static final int[] FIRST_OF_TERM = {2, 1, 1, 0, 0, -1, 0, -1, -1};
    private static final int[] SECOND_OF_TERM = {2, 2, 1, 2, 1, -1, 0, -1, -1};

    private final Sheet[] sheetRow = new Sheet[SHEETS];
    private final Polynomial[] polynomials = new Polynomial[MOST_POLYNOMIALS];
    private final int[] boxSides = new int[SIDES * MOST_BOXES];
    private final Proof[] proofs = new Proof[MOST_PROOFS];
    private final Parts partRow = new Parts();
    private final Desk desk = new Desk();
    private int polynomialCount;
    private int boxCount;
    private int proofCount;
    private int latestFault;

    public NeverBelow() {
    }

    // ---- 1 sheets, polynomials

    public int sheet(int k, int lane, int n) {
        latestFault = 0;
        if (!isSheet(k)) {
            return UNKNOWN;
        }
        if (!isLane(lane) || n > LONGEST_SHEET) {
            return OUTSIDE;
        }
        if (n < 0) {
            return faulted(FAULT_SIZE);
        }
        sheetRow[k] = new Sheet(lane, n);
        return 1;
    }

    public int lose(int k) {
        if (!isSheet(k)) {
            return UNKNOWN;
        }
        boolean had = sheetRow[k] != null;
        sheetRow[k] = null;
        return had ? 1 : 0;
    }

    public int put(int k, int i, long v) {
        latestFault = 0;
        if (!isSheet(k)) {
            return UNKNOWN;
        }
        Sheet row = sheetRow[k];
        if (row == null) {
            return faulted(FAULT_NULL);
        }
        if (!row.has(i)) {
            return faulted(FAULT_INDEX);
        }
        row.cells[i] = row.cutToLane(v);
        return 1;
    }

    public long at(int k, int i, int lane) {
        latestFault = 0;
        if (!isSheet(k) || !isLane(lane)) {
            return LOST;
        }
        Sheet row = sheetRow[k];
        if (row != null && row.lane != lane) {
            return lostBy(FAULT_CAST);
        }
        if (row == null) {
            return lostBy(FAULT_NULL);
        }
        if (!row.has(i)) {
            return lostBy(FAULT_INDEX);
        }
        return row.cells[i];
    }

    public int poly(int sheet, int lane, int i, int n) {
        latestFault = 0;
        if (!isSheet(sheet)) {
            return UNKNOWN;
        }
        if (!isLane(lane) || n > TERMS) {
            return OUTSIDE;
        }
        Sheet row = sheetRow[sheet];
        if (row != null && row.lane != lane) {
            return faulted(FAULT_CAST);
        }
        if (row == null) {
            return faulted(FAULT_NULL);
        }
        if (n < 0) {
            return faulted(FAULT_SIZE);
        }
        if (i < 0 || i > row.cells.length - n) {
            return faulted(FAULT_INDEX);
        }
        long[] terms = new long[TERMS];
        System.arraycopy(row.cells, i, terms, 0, n);
        return keepPolynomial(terms);
    }

    public int add(int p, int q, int w) {
        Polynomial first = polynomialOf(p);
        Polynomial second = polynomialOf(q);
        if (first == null || second == null) {
            return UNKNOWN;
        }
        if (!isWithin(w, LARGEST_COEFFICIENT)) {
            return OUTSIDE;
        }
        long[] terms = new long[TERMS];
        for (int t = 0; t < TERMS; t++) {
            terms[t] = first.terms[t] + w * second.terms[t];
        }
        return keepPolynomial(terms);
    }

    public int times(int p, int q) {
        Polynomial first = polynomialOf(p);
        Polynomial second = polynomialOf(q);
        if (first == null || second == null) {
            return UNKNOWN;
        }
        long[] terms = new long[TERMS];
        boolean other = first.multiplyInto(second, terms);
        if (!areCoefficients(terms)) {
            return OUTSIDE;
        }
        return other ? STATE : keepPolynomial(terms);
    }

    public int slope(int p, int which) {
        Polynomial f = polynomialOf(p);
        if (f == null) {
            return UNKNOWN;
        }
        if (!isWhich(which)) {
            return OUTSIDE;
        }
        long[] terms = new long[TERMS];
        for (int t = 0; t < TERMS; t++) {
            int power = which == 0 ? t / 3 : t % 3;
            if (power > 0) {
                terms[which == 0 ? t - 3 : t - 1] = power * f.terms[t];
            }
        }
        return keepPolynomial(terms);
    }

    public long term(int p, int t) {
        Polynomial f = polynomialOf(p);
        return f == null || !isTerm(t) ? LOST : f.terms[t];
    }

    public long value(int p, int x, int y) {
        Polynomial f = polynomialOf(p);
        if (f == null || !isWithin(x, FURTHEST) || !isWithin(y, FURTHEST)) {
            return LOST;
        }
        // CORNERS are told times 4 of what values are told times.
        return f.between(x, x, y, y) / 4;
    }

    public int same(int p, int q) {
        Polynomial first = polynomialOf(p);
        Polynomial second = polynomialOf(q);
        if (first == null || second == null) {
            return UNKNOWN;
        }
        for (int t = 0; t < TERMS; t++) {
            if (first.terms[t] != second.terms[t]) {
                return 0;
            }
        }
        return 1;
    }

    // ---- 2 boxes

    public int box(int a, int b, int c, int d) {
        if (!isRange(a, b) || !isRange(c, d)) {
            return OUTSIDE;
        }
        if (boxCount >= MOST_BOXES) {
            return FULL;
        }
        int from = SIDES * boxCount;
        boxSides[from] = a;
        boxSides[from + 1] = b;
        boxSides[from + 2] = c;
        boxSides[from + 3] = d;
        return boxCount++;
    }

    public int side(int box, int what) {
        if (!isBox(box)) {
            return UNKNOWN;
        }
        return what < 0 || what >= SIDES ? OUTSIDE : boxSides[SIDES * box + what];
    }

    public long corner(int p, int box, int k) {
        Polynomial f = polynomialOf(p);
        return f == null || !isBox(box) || !isTerm(k) ? LOST : f.cornerOn(boxSides, SIDES * box, k);
    }

    public long bound(int p, int box, int which) {
        Polynomial f = polynomialOf(p);
        if (f == null || !isBox(box) || !isWhich(which)) {
            return LOST;
        }
        f.cornersOn(boxSides, SIDES * box, desk.nine);
        return which == 0 ? leastOf(desk.nine) : greatestOf(desk.nine);
    }

    public int cut(int box, int which) {
        if (!isBox(box)) {
            return UNKNOWN;
        }
        if (!isWhich(which)) {
            return OUTSIDE;
        }
        int from = SIDES * box;
        if (isOdd(lengthOf(boxSides, from, which))) {
            return STATE;
        }
        if (boxCount + 2 > MOST_BOXES) {
            return FULL;
        }
        int lower = boxCount;
        halve(boxSides, from, which, SIDES * lower, SIDES * lower + SIDES);
        boxCount += 2;
        return lower;
    }

    public int parts(int p, int box) {
        Polynomial f = polynomialOf(p);
        if (f == null || !isBox(box)) {
            return UNKNOWN;
        }
        partRow.begin(f, boxSides, SIDES * box);
        partRow.polynomialNumber = p;
        partRow.boxNumber = box;
        return 1;
    }

    public int cover(int n) {
        if (n < 0 || n > MOST_STEPS) {
            return OUTSIDE;
        }
        if (partRow.polynomial == null) {
            return STATE;
        }
        int done = partRow.steps(n);
        return done == 0 && partRow.isFull ? FULL : done;
    }

    public int open(int what) {
        if (what < 0 || what > 4) {
            return OUTSIDE;
        }
        return what == 0 ? partRow.many : partRow.countOf(what - 1);
    }

    public int partly(int i, int what) {
        if (i < 0 || i >= partRow.many) {
            return UNKNOWN;
        }
        if (what < 0 || what > SIDES) {
            return OUTSIDE;
        }
        return what == SIDES ? partRow.states[i] : partRow.sides[SIDES * i + what];
    }

    public int where(int what) {
        if (!isWhich(what)) {
            return OUTSIDE;
        }
        if (!partRow.isBelow) {
            return NONE;
        }
        return what == 0 ? partRow.belowX : partRow.belowY;
    }

    public long least() {
        return partRow.polynomial == null ? LOST : partRow.leastCorner();
    }

    // ---- 3, 4 proofs

    public long form(int p, int r, int c) {
        Polynomial f = polynomialOf(p);
        if (f == null || r < 0 || r > 2 || c < 0 || c > 2 || !f.isForm()) {
            return LOST;
        }
        return f.formNumber(r, c);
    }

    public int squares(int p) {
        Polynomial f = polynomialOf(p);
        if (f == null) {
            return UNKNOWN;
        }
        if (!f.isForm()) {
            return STATE;
        }
        long[] numbers = f.squareNumbers(0);
        if (numbers == null) {
            return NONE;
        }
        return keepProof(new SquaresProof(SQUARES, f, p, numbers));
    }

    public int corners(int p, int box) {
        Polynomial f = polynomialOf(p);
        if (f == null || !isBox(box)) {
            return UNKNOWN;
        }
        f.cornersOn(boxSides, SIDES * box, desk.nine);
        if (leastOf(desk.nine) < 0) {
            return NONE;
        }
        long[] numbers = Arrays.copyOf(desk.nine, TERMS);
        return keepProof(new CornersProof(CORNERS, f, p, numbers, box, sidesOf(box)));
    }

    public int proved() {
        if (partRow.polynomial == null || partRow.countOf(SHOWN) != partRow.many) {
            return STATE;
        }
        long[] numbers = new long[SIDES * partRow.many];
        for (int i = 0; i < numbers.length; i++) {
            numbers[i] = partRow.sides[i];
        }
        int box = partRow.boxNumber;
        return keepProof(new PartsProof(partRow.polynomial, partRow.polynomialNumber, numbers, box, sidesOf(box)));
    }

    public int span(int p, int m, int n, int a, int b) {
        Polynomial f = polynomialOf(p);
        if (f == null) {
            return UNKNOWN;
        }
        if (!isWeight(m) || !isWeight(n) || !isRange(a, b)) {
            return OUTSIDE;
        }
        Polynomial rest = f.isForm() ? f.lessSpan(m, n, a, b) : null;
        if (rest == null) {
            return STATE;
        }
        long[] numbers = rest.squareNumbers(NUMBERS_OF_SPAN);
        if (numbers == null) {
            return NONE;
        }
        int from = numbers.length - NUMBERS_OF_SPAN;
        numbers[from] = m;
        numbers[from + 1] = n;
        numbers[from + 2] = a;
        numbers[from + 3] = b;
        return keepProof(new SpanProof(f, p, numbers));
    }

    public int proof(int q, int what) {
        Proof one = proofOf(q);
        if (one == null) {
            return UNKNOWN;
        }
        switch (what) {
            case 0: return one.kind;
            case 1: return one.polynomialNumber;
            case 2: return one.numbers.length;
            case 3: return one.pieces();
            case 4: return one.boxNumber();
            default: return OUTSIDE;
        }
    }

    public long number(int q, int i) {
        Proof one = proofOf(q);
        return one == null || !one.has(i) ? LOST : one.numbers[i];
    }

    public int forge(int q, int i, long v) {
        Proof one = proofOf(q);
        if (one == null || !one.has(i)) {
            return UNKNOWN;
        }
        if (one.kind != CORNERS && !isWithin(v, LARGEST_FORGED)) {
            return OUTSIDE;
        }
        one.numbers[i] = v;
        return 1;
    }

    public int check(int q) {
        Proof one = proofOf(q);
        if (one == null) {
            return UNKNOWN;
        }
        int wrong = one.firstWrong(desk);
        return wrong < 0 ? RIGHT : WRONG - wrong;
    }

    public int as(int q, int kind) {
        latestFault = 0;
        Proof one = proofOf(q);
        if (one == null) {
            return UNKNOWN;
        }
        if (kind < SQUARES || kind > ANY) {
            return OUTSIDE;
        }
        return isOfKind(one, kind) ? 1 : faulted(FAULT_CAST);
    }

    public int tell(int q) {
        Proof one = proofOf(q);
        return one == null ? UNKNOWN : one.telling(desk);
    }

    public int cost(int q) {
        Proof one = proofOf(q);
        return one == null ? UNKNOWN : one.costing(desk);
    }

    public int trace() {
        return desk.bodies;
    }

    public int fault() {
        return latestFault;
    }

    public int told(int what) {
        switch (what) {
            case 0: return polynomialCount;
            case 1: return boxCount;
            case 2: return proofCount;
            default: return OUTSIDE;
        }
    }

    // ---- what the calls share

    private int faulted(int which) {
        latestFault = which;
        return -10 - which;
    }

    private long lostBy(int which) {
        latestFault = which;
        return LOST;
    }

    private static boolean isSheet(int k) {
        return k >= 0 && k < SHEETS;
    }

    private static boolean isLane(int lane) {
        return lane >= 0 && lane < LANES;
    }

    private static boolean isTerm(int t) {
        return t >= 0 && t < TERMS;
    }

    private static boolean isWhich(int which) {
        return which == 0 || which == 1;
    }

    private static boolean isWithin(long v, long furthest) {
        return v >= -furthest && v <= furthest;
    }

    private static boolean isRange(int low, int high) {
        return isWithin(low, FURTHEST) && isWithin(high, FURTHEST) && low < high;
    }

    private static boolean isWeight(int v) {
        return v >= 1 && v <= LARGEST_WEIGHT;
    }

    private boolean isBox(int box) {
        return box >= 0 && box < boxCount;
    }

    private Polynomial polynomialOf(int p) {
        return p >= 0 && p < polynomialCount ? polynomials[p] : null;
    }

    private Proof proofOf(int q) {
        return q >= 0 && q < proofCount ? proofs[q] : null;
    }

    private int[] sidesOf(int box) {
        return Arrays.copyOfRange(boxSides, SIDES * box, SIDES * box + SIDES);
    }

    private int keepPolynomial(long[] terms) {
        if (!areCoefficients(terms)) {
            return OUTSIDE;
        }
        if (polynomialCount >= MOST_POLYNOMIALS) {
            return FULL;
        }
        polynomials[polynomialCount] = new Polynomial(terms);
        return polynomialCount++;
    }

    private int keepProof(Proof one) {
        if (proofCount >= MOST_PROOFS) {
            return FULL;
        }
        proofs[proofCount] = one;
        return proofCount++;
    }

    private static boolean areCoefficients(long[] terms) {
        for (int t = 0; t < terms.length; t++) {
            if (!isWithin(terms[t], LARGEST_COEFFICIENT)) {
                return false;
            }
        }
        return true;
    }

    private static boolean isOfKind(Proof one, int kind) {
        switch (kind) {
            case SQUARES: return one instanceof SquaresProof;
            case CORNERS: return one instanceof CornersProof;
            case PARTS: return one instanceof PartsProof;
            case SPAN: return one instanceof SpanProof;
            default: return true;
        }
    }

    private static boolean isOdd(int length) {
        return (length & 1) != 0;
    }

    private static int lengthOf(int[] sides, int from, int which) {
        return sides[from + 2 * which + 1] - sides[from + 2 * which];
    }

    /** The upper half is laid first: the lower one may come to stand where the whole stands. */
    private static void halve(int[] sides, int from, int which, int lower, int upper) {
        int middle = sides[from + 2 * which] + lengthOf(sides, from, which) / 2;
        System.arraycopy(sides, from, sides, upper, SIDES);
        sides[upper + 2 * which] = middle;
        System.arraycopy(sides, from, sides, lower, SIDES);
        sides[lower + 2 * which + 1] = middle;
    }

    private static long leastOf(long[] nine) {
        long least = nine[0];
        for (int k = 1; k < nine.length; k++) {
            least = Math.min(least, nine[k]);
        }
        return least;
    }

    private static long greatestOf(long[] nine) {
        long greatest = nine[0];
        for (int k = 1; k < nine.length; k++) {
            greatest = Math.max(greatest, nine[k]);
        }
        return greatest;
    }

    /** A row of a LANE; its cells are held as longs, each cut to the LANE as it comes. */
    private static final class Sheet {
        final int lane;
        final long[] cells;

        Sheet(int lane, int length) {
            this.lane = lane;
            this.cells = new long[Math.max(0, length)];
        }

        boolean has(int i) {
            return i >= 0 && i < cells.length;
        }

        long cutToLane(long v) {
            switch (lane) {
                case 0: return (byte) v;
                case 1: return (int) v;
                default: return v;
            }
        }
    }

    /** Nine COEFFICIENTS that do not change. */
    private static final class Polynomial {
        /** Twice 256 to the second: what x and y each bring to the number that CORNERS are told times. */
        private static final long SCALE = 131072;

        final long[] terms;

        Polynomial(long[] terms) {
            this.terms = terms;
        }

        /**
         * What becomes of the polynomial where x x is u v and x is half of u and v, y likewise of s and r:
         * for ends of a BOX these are its CORNERS, and where u is v and s is r, its values.
         */
        long between(long u, long v, long s, long r) {
            long y = 256 * (s + r);
            long yy = 2 * s * r;
            long ofOne = terms[0] * SCALE + terms[1] * y + terms[2] * yy;
            long ofX = terms[3] * SCALE + terms[4] * y + terms[5] * yy;
            long ofXX = terms[6] * SCALE + terms[7] * y + terms[8] * yy;
            return ofOne * SCALE + ofX * (256 * (u + v)) + ofXX * (2 * u * v);
        }

        long cornerOn(int[] sides, int from, int k) {
            int i = k / 3;
            int j = k % 3;
            int u = sides[i == 2 ? from + 1 : from];
            int v = sides[i == 0 ? from : from + 1];
            int s = sides[j == 2 ? from + 3 : from + 2];
            int r = sides[j == 0 ? from + 2 : from + 3];
            return between(u, v, s, r);
        }

        void cornersOn(int[] sides, int from, long[] nine) {
            for (int k = 0; k < TERMS; k++) {
                nine[k] = cornerOn(sides, from, k);
            }
        }

        /** The product's TERMS 0 .. 8; answers whether it has another. */
        boolean multiplyInto(Polynomial second, long[] product) {
            long[] wide = new long[25];
            for (int t = 0; t < TERMS; t++) {
                for (int s = 0; s < TERMS; s++) {
                    wide[5 * (t / 3 + s / 3) + t % 3 + s % 3] += terms[t] * second.terms[s];
                }
            }
            boolean other = false;
            for (int w = 0; w < wide.length; w++) {
                int i = w / 5;
                int j = w % 5;
                if (i <= 2 && j <= 2) {
                    product[3 * i + j] = wide[w];
                } else if (wide[w] != 0) {
                    other = true;
                }
            }
            return other;
        }

        boolean isForm() {
            return terms[5] == 0 && terms[7] == 0 && terms[8] == 0;
        }

        long formNumber(int r, int c) {
            long number = terms[TERM_OF_FORM[3 * r + c]];
            return r == c ? 2 * number : number;
        }

        /** It less WEIGHT m by n of (x - a)(b - x); null where that has a COEFFICIENT that is none. */
        Polynomial lessSpan(long m, long n, long a, long b) {
            long byX = 256 * n;
            long byOne = 65536 * n;
            if (n <= 0 || m % n != 0 || m * (a + b) % byX != 0 || m * a * b % byOne != 0) {
                return null;
            }
            long[] rest = Arrays.copyOf(terms, TERMS);
            rest[6] += m / n;
            rest[3] -= m * (a + b) / byX;
            rest[0] += m * a * b / byOne;
            return areCoefficients(rest) ? new Polynomial(rest) : null;
        }

        /** The numbers of the SQUARES of THE FORM, and so many cells more behind them; null: there are none. */
        long[] squareNumbers(int more) {
            long[] rows = new long[9];
            for (int k = 0; k < rows.length; k++) {
                rows[k] = formNumber(k / 3, k % 3);
            }
            long[] numbers = new long[3 * NUMBERS_OF_SQUARE];
            int used = 0;
            long p = 1;
            for (int k = 0; k < 3; k++) {
                long d = rows[4 * k];
                if (d < 0 || d == 0 && hasBehind(rows, k)) {
                    return null;
                }
                if (d > 0 && p > 0) {
                    numbers[used] = 1;
                    numbers[used + 1] = 2 * p * d;
                    System.arraycopy(rows, 4 * k, numbers, used + 2 + k, 3 - k);
                    used += NUMBERS_OF_SQUARE;
                    clearBehind(rows, k, p);
                    p = d;
                }
            }
            return Arrays.copyOf(numbers, used + more);
        }

        private static boolean hasBehind(long[] rows, int k) {
            for (int c = k + 1; c < 3; c++) {
                if (rows[3 * k + c] != 0) {
                    return true;
                }
            }
            return false;
        }

        private static void clearBehind(long[] rows, int k, long p) {
            long d = rows[4 * k];
            for (int r = k + 1; r < 3; r++) {
                for (int c = k + 1; c < 3; c++) {
                    rows[3 * r + c] = (rows[3 * r + c] * d - rows[3 * r + k] * rows[3 * k + c]) / p;
                }
            }
        }
    }

    /** PARTS of a BOX for a polynomial, and the STEPS that make them. */
    private static final class Parts {
        final int[] sides = new int[SIDES * MOST_PARTS];
        final int[] states = new int[MOST_PARTS];
        private final long[] nine = new long[TERMS];
        Polynomial polynomial;
        int polynomialNumber;
        int boxNumber;
        int many;
        boolean isBelow;
        int belowX;
        int belowY;
        /** Whether the latest STEPS ended ahead of one that would have made too many. */
        boolean isFull;

        void begin(Polynomial f, int[] boxes, int from) {
            polynomial = f;
            System.arraycopy(boxes, from, sides, 0, SIDES);
            states[0] = OPEN;
            many = 1;
            isBelow = false;
        }

        int steps(int most) {
            isFull = false;
            for (int done = 0; done < most; done++) {
                if (!step()) {
                    return done;
                }
            }
            return most;
        }

        private boolean step() {
            int i = isBelow ? -1 : firstOpen();
            if (polynomial == null || i < 0) {
                return false;
            }
            polynomial.cornersOn(sides, SIDES * i, nine);
            if (leastOf(nine) >= 0) {
                states[i] = SHOWN;
                return true;
            }
            for (int k = 0; k < OWN_CORNERS.length; k++) {
                if (nine[OWN_CORNERS[k]] < 0) {
                    markBelow(i, k);
                    return true;
                }
            }
            return cutPart(i);
        }

        private int firstOpen() {
            for (int i = 0; i < many; i++) {
                if (states[i] == OPEN) {
                    return i;
                }
            }
            return -1;
        }

        private void markBelow(int i, int own) {
            states[i] = BELOW;
            isBelow = true;
            belowX = sides[SIDES * i + own / 2];
            belowY = sides[SIDES * i + 2 + own % 2];
        }

        private boolean cutPart(int i) {
            int wide = lengthOf(sides, SIDES * i, 0);
            int high = lengthOf(sides, SIDES * i, 1);
            if (isOdd(wide) && isOdd(high)) {
                states[i] = STUCK;
                return true;
            }
            if (many >= MOST_PARTS) {
                isFull = true;
                return false;
            }
            boolean byX = !isOdd(wide) && (isOdd(high) || high <= wide);
            int behind = many - i - 1;
            System.arraycopy(sides, SIDES * (i + 1), sides, SIDES * (i + 2), SIDES * behind);
            System.arraycopy(states, i + 1, states, i + 2, behind);
            halve(sides, SIDES * i, byX ? 0 : 1, SIDES * i, SIDES * (i + 1));
            states[i + 1] = OPEN;
            many++;
            return true;
        }

        int countOf(int state) {
            int count = 0;
            for (int i = 0; i < many; i++) {
                if (states[i] == state) {
                    count++;
                }
            }
            return count;
        }

        long leastCorner() {
            long least = Long.MAX_VALUE;
            for (int i = 0; i < many && polynomial != null; i++) {
                polynomial.cornersOn(sides, SIDES * i, nine);
                least = Math.min(least, leastOf(nine));
            }
            return least;
        }
    }

    /** What PROOFS work with: TRACE, and rows that are used again so that no call makes new ones. */
    private static final class Desk {
        final long[] nine = new long[TERMS];
        final Whole sum = new Whole();
        final Whole share = new Whole();
        final Parts again = new Parts();
        int bodies;

        void begin(int body) {
            bodies = 31 * bodies + body;
        }
    }

    /**
     * A whole number of 384 bits that wraps. What check multiplies out stays under 300 bits, even of forged
     * numbers, so a sum that is nought here is nought.
     */
    private static final class Whole {
        private static final long LOW = 0xFFFFFFFFL;

        private final int[] digits = new int[12];

        void become(long v) {
            digits[0] = (int) v;
            digits[1] = (int) (v >> 32);
            Arrays.fill(digits, 2, digits.length, v < 0 ? -1 : 0);
        }

        void multiplyBy(long v) {
            long size = Math.abs(v);
            long low = size & LOW;
            long high = size >>> 32;
            long carryLow = 0;
            long carryHigh = 0;
            long before = 0;
            for (int i = 0; i < digits.length; i++) {
                long here = digits[i] & LOW;
                long first = here * low + carryLow;
                long second = before * high + (first & LOW) + carryHigh;
                digits[i] = (int) second;
                carryLow = first >>> 32;
                carryHigh = second >>> 32;
                before = here;
            }
            if (v < 0) {
                turnSign();
            }
        }

        private void turnSign() {
            long carry = 1;
            for (int i = 0; i < digits.length; i++) {
                carry += ~digits[i] & LOW;
                digits[i] = (int) carry;
                carry >>>= 32;
            }
        }

        void take(Whole other) {
            long carry = 0;
            for (int i = 0; i < digits.length; i++) {
                carry += (digits[i] & LOW) + (other.digits[i] & LOW);
                digits[i] = (int) carry;
                carry >>>= 32;
            }
        }

        boolean isNought() {
            for (int i = 0; i < digits.length; i++) {
                if (digits[i] != 0) {
                    return false;
                }
            }
            return true;
        }
    }

    /** A PROOF of a POLYNOMIAL; its numbers may be forged. */
    private abstract static class Proof {
        final int kind;
        final Polynomial polynomial;
        final int polynomialNumber;
        final long[] numbers;

        Proof(int kind, Polynomial polynomial, int polynomialNumber, long[] numbers) {
            this.kind = kind;
            this.polynomial = polynomial;
            this.polynomialNumber = polynomialNumber;
            this.numbers = numbers;
        }

        boolean has(int i) {
            return i >= 0 && i < numbers.length;
        }

        int telling(Desk desk) {
            desk.begin(1);
            return numbers.length;
        }

        int costing(Desk desk) {
            desk.begin(5);
            return 100 + numbers.length;
        }

        int boxNumber() {
            return NONE;
        }

        /** How many SQUARES or PARTS it has. */
        abstract int pieces();

        /** What is told of a PROOF that is not RIGHT; -1 of one that is. */
        abstract int firstWrong(Desk desk);
    }

    private static class SquaresProof extends Proof {
        SquaresProof(int kind, Polynomial polynomial, int polynomialNumber, long[] numbers) {
            super(kind, polynomial, polynomialNumber, numbers);
        }

        int pieces() {
            return numbers.length / NUMBERS_OF_SQUARE;
        }

        int firstWrong(Desk desk) {
            if (!hasWeightsAbove()) {
                return WEIGHT_WRONG;
            }
            for (int t = 0; t < TERMS; t++) {
                if (!holds(t, desk.sum, desk.share)) {
                    return t;
                }
            }
            return -1;
        }

        boolean hasWeightsAbove() {
            for (int k = 0; k < pieces(); k++) {
                if (!isWeightAbove(NUMBERS_OF_SQUARE * k)) {
                    return false;
                }
            }
            return true;
        }

        final boolean isWeightAbove(int from) {
            return numbers[from] > 0 && numbers[from + 1] > 0;
        }

        /** All is taken times what all WEIGHTS are told by, so that it is whole. */
        private boolean holds(int t, Whole sum, Whole share) {
            share.become(-polynomial.terms[t]);
            multiplyByOthers(share, -1);
            share.multiplyBy(spanDivisor());
            sum.become(0);
            sum.take(share);
            for (int k = 0; k < pieces() && FIRST_OF_TERM[t] >= 0; k++) {
                squareShare(t, k, share);
                sum.take(share);
            }
            spanShare(t, share);
            sum.take(share);
            return sum.isNought();
        }

        private void squareShare(int t, int k, Whole share) {
            int from = NUMBERS_OF_SQUARE * k;
            int first = FIRST_OF_TERM[t];
            int second = SECOND_OF_TERM[t];
            share.become(numbers[from]);
            share.multiplyBy(numbers[from + 2 + first]);
            share.multiplyBy(numbers[from + 2 + second]);
            share.multiplyBy(first == second ? 1 : 2);
            multiplyByOthers(share, k);
            share.multiplyBy(spanDivisor());
        }

        final void multiplyByOthers(Whole share, int but) {
            for (int k = 0; k < pieces(); k++) {
                if (k != but) {
                    share.multiplyBy(numbers[NUMBERS_OF_SQUARE * k + 1]);
                }
            }
        }

        long spanDivisor() {
            return 1;
        }

        void spanShare(int t, Whole share) {
            share.become(0);
        }
    }

    private static final class SpanProof extends SquaresProof {
        SpanProof(Polynomial polynomial, int polynomialNumber, long[] numbers) {
            super(SPAN, polynomial, polynomialNumber, numbers);
        }

        private int spanFrom() {
            return numbers.length - NUMBERS_OF_SPAN;
        }

        int pieces() {
            return spanFrom() / NUMBERS_OF_SQUARE;
        }

        int telling(Desk desk) {
            desk.begin(2);
            return 2 * super.telling(desk);
        }

        boolean hasWeightsAbove() {
            return super.hasWeightsAbove() && isWeightAbove(spanFrom());
        }

        long spanDivisor() {
            return 65536 * numbers[spanFrom() + 1];
        }

        void spanShare(int t, Whole share) {
            share.become(numbers[spanFrom()]);
            share.multiplyBy(spanTerm(t));
            multiplyByOthers(share, -1);
        }

        /** A TERM of (x - a)(b - x), times 65536. */
        private long spanTerm(int t) {
            long a = numbers[spanFrom() + 2];
            long b = numbers[spanFrom() + 3];
            switch (t) {
                case 0: return -a * b;
                case 3: return 256 * (a + b);
                case 6: return -65536;
                default: return 0;
            }
        }
    }

    private static class CornersProof extends Proof {
        private final int box;
        final int[] sides;

        CornersProof(int kind, Polynomial polynomial, int polynomialNumber, long[] numbers, int box, int[] sides) {
            super(kind, polynomial, polynomialNumber, numbers);
            this.box = box;
            this.sides = sides;
        }

        int boxNumber() {
            return box;
        }

        int pieces() {
            return 0;
        }

        int telling(Desk desk) {
            desk.begin(3);
            return 9 + super.telling(desk);
        }

        int costing(Desk desk) {
            desk.begin(6);
            return 7;
        }

        int firstWrong(Desk desk) {
            polynomial.cornersOn(sides, 0, desk.nine);
            for (int k = 0; k < TERMS; k++) {
                if (numbers[k] < 0 || numbers[k] != desk.nine[k]) {
                    return k;
                }
            }
            return -1;
        }
    }

    private static final class PartsProof extends CornersProof {
        PartsProof(Polynomial polynomial, int polynomialNumber, long[] numbers, int box, int[] sides) {
            super(PARTS, polynomial, polynomialNumber, numbers, box, sides);
        }

        int pieces() {
            return numbers.length / SIDES;
        }

        int telling(Desk desk) {
            desk.begin(4);
            return super.telling(desk) - 9;
        }

        /** The STEPS are done again: they are the same ones, so they end with as many PARTS, all SHOWN. */
        int firstWrong(Desk desk) {
            Parts again = desk.again;
            again.begin(polynomial, sides, 0);
            again.steps(MOST_STEPS);
            for (int i = 0; i < numbers.length; i++) {
                if (numbers[i] != again.sides[i]) {
                    return i / SIDES;
                }
            }
            return -1;
        }
    }
}
