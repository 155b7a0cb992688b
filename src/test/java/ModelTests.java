import java.lang.reflect.InvocationTargetException;
import java.lang.reflect.Method;
import java.math.BigInteger;
import java.util.ArrayList;
import java.util.Arrays;
import java.util.HashMap;
import java.util.List;
import java.util.Map;
import java.util.Random;

/**
 * Runs of calls with the answers of a second program of the same document, written apart and slowly, over
 * BigInteger. The seeds are fixed: each time the same calls are made.
 */
public final class ModelTests {
    private static final int RUNS = 3000;
    private static final int CALLS = 512;

    /** A fraction, its divisor above 0. */
    private record Ratio(BigInteger above, BigInteger below) {
        static Ratio of(long v) {
            return new Ratio(BigInteger.valueOf(v), BigInteger.ONE);
        }

        static Ratio of(long m, long n) {
            return new Ratio(BigInteger.valueOf(m), BigInteger.valueOf(n));
        }

        Ratio plus(Ratio o) {
            return new Ratio(above.multiply(o.below).add(o.above.multiply(below)), below.multiply(o.below));
        }

        Ratio by(Ratio o) {
            return new Ratio(above.multiply(o.above), below.multiply(o.below));
        }

        boolean is(Ratio o) {
            return above.multiply(o.below).equals(o.above.multiply(below));
        }

        boolean isWhole() {
            return above.mod(below).signum() == 0;
        }

        BigInteger whole() {
            return above.divide(below);
        }
    }

    private record Cell(int a, int b, int c, int d, int state) {
    }

    private static final class Paper {
        int kind;
        int polynomial;
        int box = NeverBelow.NONE;
        List<Long> numbers = new ArrayList<>();
        List<Cell> cells = new ArrayList<>();
    }

    /** The second program. Its methods bear the names of the face. */
    public static final class Model {
        private static final int UNKNOWN = -1, OUTSIDE = -2, STATE = -3, FULL = -4, NONE = -9;
        private static final long LOST = Long.MIN_VALUE;
        private final Object[] sheets = new Object[4];
        private final List<Ratio[][]> polys = new ArrayList<>();
        private final List<int[]> boxes = new ArrayList<>();
        private final List<Paper> papers = new ArrayList<>();
        private List<Cell> row = new ArrayList<>();
        private int rowPoly = -1;
        private int rowBox = -1;
        private int[] below = null;
        private int trace = 0;
        private int fault = 0;

        private static int laneOf(Object o) {
            return o instanceof byte[] ? 0 : o instanceof int[] ? 1 : 2;
        }

        private static int lengthOf(Object o) {
            return java.lang.reflect.Array.getLength(o);
        }

        private int fail(int which) {
            fault = which;
            return -10 - which;
        }

        public int sheet(int k, int lane, int n) {
            fault = 0;
            if (k < 0 || k > 3) return UNKNOWN;
            if (lane < 0 || lane > 2 || n > 30) return OUTSIDE;
            if (n < 0) return fail(4);
            sheets[k] = lane == 0 ? new byte[n] : lane == 1 ? new int[n] : new long[n];
            return 1;
        }

        public int lose(int k) {
            if (k < 0 || k > 3) return UNKNOWN;
            int answer = sheets[k] == null ? 0 : 1;
            sheets[k] = null;
            return answer;
        }

        public int put(int k, int i, long v) {
            fault = 0;
            if (k < 0 || k > 3) return UNKNOWN;
            Object o = sheets[k];
            if (o == null) return fail(1);
            if (i < 0 || i >= lengthOf(o)) return fail(3);
            if (o instanceof byte[] b) b[i] = (byte) v;
            if (o instanceof int[] b) b[i] = (int) v;
            if (o instanceof long[] b) b[i] = v;
            return 1;
        }

        public long at(int k, int i, int lane) {
            fault = 0;
            if (k < 0 || k > 3 || lane < 0 || lane > 2) return LOST;
            Object o = sheets[k];
            int f = o != null && laneOf(o) != lane ? 2 : o == null ? 1 : i < 0 || i >= lengthOf(o) ? 3 : 0;
            fault = f;
            return f != 0 ? LOST : java.lang.reflect.Array.getLong(o, i);
        }

        public int poly(int k, int lane, int i, int n) {
            fault = 0;
            if (k < 0 || k > 3) return UNKNOWN;
            if (lane < 0 || lane > 2 || n > 9) return OUTSIDE;
            Object o = sheets[k];
            if (o != null && laneOf(o) != lane) return fail(2);
            if (o == null) return fail(1);
            if (n < 0) return fail(4);
            if (i < 0 || (long) i + n > lengthOf(o)) return fail(3);
            Ratio[][] c = blank();
            for (int t = 0; t < n; t++) c[t / 3][t % 3] = Ratio.of(java.lang.reflect.Array.getLong(o, i + t));
            return keep(c);
        }

        private static Ratio[][] blank() {
            Ratio[][] c = new Ratio[5][5];
            for (Ratio[] r : c) Arrays.fill(r, Ratio.of(0));
            return c;
        }

        private static boolean fits(Ratio[][] c) {
            BigInteger top = BigInteger.valueOf(1000);
            for (int t = 0; t < 9; t++) {
                if (!c[t / 3][t % 3].isWhole() || c[t / 3][t % 3].whole().abs().compareTo(top) > 0) return false;
            }
            return true;
        }

        private static boolean goesBeyond(Ratio[][] c) {
            for (int i = 0; i < 5; i++) {
                for (int j = 0; j < 5; j++) {
                    if ((i > 2 || j > 2) && c[i][j].above().signum() != 0) return true;
                }
            }
            return false;
        }

        private int keep(Ratio[][] c) {
            if (!fits(c)) return OUTSIDE;
            if (goesBeyond(c)) return STATE;
            if (polys.size() == 30) return FULL;
            polys.add(c);
            return polys.size() - 1;
        }

        private boolean noPoly(int p) {
            return p < 0 || p >= polys.size();
        }

        private boolean noBox(int b) {
            return b < 0 || b >= boxes.size();
        }

        private boolean noPaper(int q) {
            return q < 0 || q >= papers.size();
        }

        private static Ratio[][] sum(Ratio[][] a, Ratio[][] b, Ratio w) {
            Ratio[][] c = blank();
            for (int i = 0; i < 5; i++) {
                for (int j = 0; j < 5; j++) c[i][j] = a[i][j].plus(b[i][j].by(w));
            }
            return c;
        }

        private static Ratio[][] product(Ratio[][] a, Ratio[][] b) {
            Ratio[][] c = blank();
            for (int t = 0; t < 9; t++) {
                for (int s = 0; s < 9; s++) {
                    int i = t / 3 + s / 3;
                    int j = t % 3 + s % 3;
                    c[i][j] = c[i][j].plus(a[t / 3][t % 3].by(b[s / 3][s % 3]));
                }
            }
            return c;
        }

        public int add(int p, int q, int w) {
            if (noPoly(p) || noPoly(q)) return UNKNOWN;
            if (w < -1000 || w > 1000) return OUTSIDE;
            return keep(sum(polys.get(p), polys.get(q), Ratio.of(w)));
        }

        public int times(int p, int q) {
            if (noPoly(p) || noPoly(q)) return UNKNOWN;
            return keep(product(polys.get(p), polys.get(q)));
        }

        public int slope(int p, int which) {
            if (noPoly(p)) return UNKNOWN;
            if (which != 0 && which != 1) return OUTSIDE;
            Ratio[][] f = polys.get(p);
            Ratio[][] c = blank();
            for (int i = 0; i < 3; i++) {
                for (int j = 0; j < 3; j++) {
                    c[i][j] = which == 0 ? f[i + 1][j].by(Ratio.of(i + 1)) : f[i][j + 1].by(Ratio.of(j + 1));
                }
            }
            return keep(c);
        }

        public long term(int p, int t) {
            return noPoly(p) || t < 0 || t > 8 ? LOST : polys.get(p)[t / 3][t % 3].whole().longValueExact();
        }

        public long value(int p, int x, int y) {
            if (noPoly(p) || Math.abs((long) x) > 2048 || Math.abs((long) y) > 2048) return LOST;
            Ratio v = Ratio.of(0);
            for (int t = 0; t < 9; t++) {
                Ratio one = polys.get(p)[t / 3][t % 3];
                for (int i = 0; i < t / 3; i++) one = one.by(Ratio.of(x, 256));
                for (int j = 0; j < t % 3; j++) one = one.by(Ratio.of(y, 256));
                v = v.plus(one);
            }
            return v.by(Ratio.of(1L << 32)).whole().longValueExact();
        }

        public int same(int p, int q) {
            if (noPoly(p) || noPoly(q)) return UNKNOWN;
            for (int t = 0; t < 9; t++) {
                if (term(p, t) != term(q, t)) return 0;
            }
            return 1;
        }

        public int box(int a, int b, int c, int d) {
            for (int v : new int[] {a, b, c, d}) {
                if (v < -2048 || v > 2048) return OUTSIDE;
            }
            if (a >= b || c >= d) return OUTSIDE;
            if (boxes.size() == 30) return FULL;
            boxes.add(new int[] {a, b, c, d});
            return boxes.size() - 1;
        }

        public int side(int box, int what) {
            if (noBox(box)) return UNKNOWN;
            return what < 0 || what > 3 ? OUTSIDE : boxes.get(box)[what];
        }

        /** From the powers of t, u that x = a + t (b - a), y = c + u (d - c) make to the nine numbers. */
        private long[] nine(int p, int a, int b, int c, int d) {
            BigInteger[][] powers = new BigInteger[3][3];
            for (BigInteger[] r : powers) Arrays.fill(r, BigInteger.ZERO);
            long[][] xs = expand(a, b - a);
            long[][] ys = expand(c, d - c);
            for (int t = 0; t < 9; t++) {
                BigInteger one = BigInteger.valueOf(term(p, t)).multiply(BigInteger.TWO.pow(8 * (4 - t / 3 - t % 3)));
                for (int k = 0; k < 3; k++) {
                    for (int l = 0; l < 3; l++) {
                        BigInteger part = one.multiply(BigInteger.valueOf(xs[t / 3][k]))
                            .multiply(BigInteger.valueOf(ys[t % 3][l]));
                        powers[k][l] = powers[k][l].add(part);
                    }
                }
            }
            // twice what 1, t, t t bring to each of (1 - t)(1 - t), 2 t (1 - t), t t
            int[][] bring = {{2, 0, 0}, {2, 1, 0}, {2, 2, 2}};
            long[] out = new long[9];
            for (int k = 0; k < 9; k++) {
                BigInteger v = BigInteger.ZERO;
                for (int s = 0; s < 9; s++) {
                    int times = bring[k / 3][s / 3] * bring[k % 3][s % 3];
                    v = v.add(powers[s / 3][s % 3].multiply(BigInteger.valueOf(times)));
                }
                out[k] = v.longValueExact();
            }
            return out;
        }

        private static long[][] expand(long a, long w) {
            return new long[][] {{1, 0, 0}, {a, w, 0}, {a * a, 2 * a * w, w * w}};
        }

        private long[] nine(int p, int box) {
            int[] s = boxes.get(box);
            return nine(p, s[0], s[1], s[2], s[3]);
        }

        public long corner(int p, int box, int k) {
            return noPoly(p) || noBox(box) || k < 0 || k > 8 ? LOST : nine(p, box)[k];
        }

        public long bound(int p, int box, int which) {
            if (noPoly(p) || noBox(box) || which < 0 || which > 1) return LOST;
            long[] s = nine(p, box);
            Arrays.sort(s);
            return s[which == 0 ? 0 : 8];
        }

        public int cut(int box, int which) {
            if (noBox(box)) return UNKNOWN;
            if (which < 0 || which > 1) return OUTSIDE;
            int[] s = boxes.get(box);
            if ((s[2 * which + 1] - s[2 * which]) % 2 != 0) return STATE;
            if (boxes.size() > 28) return FULL;
            int middle = Math.floorDiv(s[2 * which + 1] + s[2 * which], 2);
            int[] lower = s.clone();
            int[] upper = s.clone();
            lower[2 * which + 1] = middle;
            upper[2 * which] = middle;
            boxes.add(lower);
            boxes.add(upper);
            return boxes.size() - 2;
        }

        public int parts(int p, int box) {
            if (noPoly(p) || noBox(box)) return UNKNOWN;
            int[] s = boxes.get(box);
            row = new ArrayList<>();
            row.add(new Cell(s[0], s[1], s[2], s[3], 0));
            rowPoly = p;
            rowBox = box;
            below = null;
            return 1;
        }

        public int cover(int n) {
            if (n < 0 || n > 500) return OUTSIDE;
            if (rowPoly < 0) return STATE;
            int done = 0;
            while (done < n && open(1) > 0 && open(4) == 0) {
                List<Cell> next = stepped();
                if (next.size() > 40) return done == 0 ? FULL : done;
                row = next;
                done++;
            }
            return done;
        }

        private List<Cell> stepped() {
            List<Cell> next = new ArrayList<>(row);
            int i = 0;
            while (row.get(i).state() != 0) i++;
            Cell e = row.get(i);
            long[] s = nine(rowPoly, e.a(), e.b(), e.c(), e.d());
            if (Arrays.stream(s).allMatch(v -> v >= 0)) {
                next.set(i, new Cell(e.a(), e.b(), e.c(), e.d(), 1));
                return next;
            }
            int[][] ends = {{0, e.a(), e.c()}, {2, e.a(), e.d()}, {6, e.b(), e.c()}, {8, e.b(), e.d()}};
            for (int[] end : ends) {
                if (s[end[0]] < 0) {
                    below = new int[] {end[1], end[2]};
                    next.set(i, new Cell(e.a(), e.b(), e.c(), e.d(), 3));
                    return next;
                }
            }
            boolean evenX = (e.b() - e.a()) % 2 == 0;
            boolean evenY = (e.d() - e.c()) % 2 == 0;
            int x = Math.floorDiv(e.a() + e.b(), 2);
            int y = Math.floorDiv(e.c() + e.d(), 2);
            if (!evenX && !evenY) {
                next.set(i, new Cell(e.a(), e.b(), e.c(), e.d(), 2));
            } else if (evenX && (!evenY || e.d() - e.c() <= e.b() - e.a())) {
                next.set(i, new Cell(e.a(), x, e.c(), e.d(), 0));
                next.add(i + 1, new Cell(x, e.b(), e.c(), e.d(), 0));
            } else {
                next.set(i, new Cell(e.a(), e.b(), e.c(), y, 0));
                next.add(i + 1, new Cell(e.a(), e.b(), y, e.d(), 0));
            }
            return next;
        }

        public int open(int what) {
            if (what < 0 || what > 4) return OUTSIDE;
            return what == 0 ? row.size() : (int) row.stream().filter(e -> e.state() == what - 1).count();
        }

        public int partly(int i, int what) {
            if (i < 0 || i >= row.size()) return UNKNOWN;
            if (what < 0 || what > 4) return OUTSIDE;
            Cell e = row.get(i);
            return new int[] {e.a(), e.b(), e.c(), e.d(), e.state()}[what];
        }

        public int where(int what) {
            if (what < 0 || what > 1) return OUTSIDE;
            return below == null ? NONE : below[what];
        }

        public long least() {
            if (rowPoly < 0) return LOST;
            return row.stream().flatMapToLong(e -> Arrays.stream(nine(rowPoly, e.a(), e.b(), e.c(), e.d())))
                .min().getAsLong();
        }

        private static boolean isForm(Ratio[][] f) {
            return f[1][2].above().signum() == 0 && f[2][1].above().signum() == 0 && f[2][2].above().signum() == 0;
        }

        private static BigInteger[][] formOf(Ratio[][] f) {
            BigInteger[][] m = new BigInteger[3][3];
            int[][] powers = {{1, 0}, {0, 1}, {0, 0}};
            for (int r = 0; r < 3; r++) {
                for (int c = 0; c < 3; c++) {
                    BigInteger v = f[powers[r][0] + powers[c][0]][powers[r][1] + powers[c][1]].whole();
                    m[r][c] = r == c ? v.add(v) : v;
                }
            }
            return m;
        }

        public long form(int p, int r, int c) {
            if (noPoly(p) || r < 0 || r > 2 || c < 0 || c > 2 || !isForm(polys.get(p))) return LOST;
            return formOf(polys.get(p))[r][c].longValueExact();
        }

        private static List<Long> squaresOf(Ratio[][] f) {
            BigInteger[][] m = formOf(f);
            List<Long> numbers = new ArrayList<>();
            BigInteger p = BigInteger.ONE;
            for (int k = 0; k < 3; k++) {
                BigInteger d = m[k][k];
                boolean other = false;
                for (int c = k + 1; c < 3; c++) other |= m[k][c].signum() != 0;
                if (d.signum() < 0 || d.signum() == 0 && other) return null;
                if (d.signum() == 0) continue;
                numbers.add(1L);
                numbers.add(p.multiply(d).shiftLeft(1).longValueExact());
                for (int c = 0; c < 3; c++) numbers.add(c < k ? 0L : m[k][c].longValueExact());
                BigInteger[][] next = new BigInteger[3][];
                for (int r = 0; r < 3; r++) next[r] = m[r].clone();
                for (int r = k + 1; r < 3; r++) {
                    for (int c = k + 1; c < 3; c++) {
                        BigInteger[] by = m[r][c].multiply(d).subtract(m[r][k].multiply(m[k][c])).divideAndRemainder(p);
                        if (by[1].signum() != 0) throw new IllegalStateException("not whole");
                        next[r][c] = by[0];
                    }
                }
                m = next;
                p = d;
            }
            return numbers;
        }

        private int file(int kind, int p, int box, List<Long> numbers, List<Cell> cells) {
            if (papers.size() == 40) return FULL;
            Paper one = new Paper();
            one.kind = kind;
            one.polynomial = p;
            one.box = box;
            one.numbers = numbers;
            one.cells = cells;
            papers.add(one);
            return papers.size() - 1;
        }

        public int squares(int p) {
            if (noPoly(p)) return UNKNOWN;
            if (!isForm(polys.get(p))) return STATE;
            List<Long> numbers = squaresOf(polys.get(p));
            return numbers == null ? NONE : file(0, p, NONE, numbers, null);
        }

        public int corners(int p, int box) {
            if (noPoly(p) || noBox(box)) return UNKNOWN;
            List<Long> numbers = new ArrayList<>();
            for (long v : nine(p, box)) {
                if (v < 0) return NONE;
                numbers.add(v);
            }
            return file(1, p, box, numbers, null);
        }

        public int proved() {
            if (rowPoly < 0 || open(2) != open(0)) return STATE;
            List<Long> numbers = new ArrayList<>();
            for (Cell e : row) {
                for (int v : new int[] {e.a(), e.b(), e.c(), e.d()}) numbers.add((long) v);
            }
            return file(2, rowPoly, rowBox, numbers, new ArrayList<>(row));
        }

        /** (x - a)(b - x) times m by n, a, b told in 256ths. */
        private static Ratio[][] stretch(long m, long n, long a, long b) {
            Ratio[][] left = blank();
            Ratio[][] right = blank();
            left[1][0] = Ratio.of(1);
            left[0][0] = Ratio.of(-a, 256);
            right[1][0] = Ratio.of(-1);
            right[0][0] = Ratio.of(b, 256);
            return sum(blank(), product(left, right), Ratio.of(m, n));
        }

        public int span(int p, int m, int n, int a, int b) {
            if (noPoly(p)) return UNKNOWN;
            if (m < 1 || m > 1000 || n < 1 || n > 1000) return OUTSIDE;
            if (a < -2048 || b > 2048 || a >= b) return OUTSIDE;
            if (!isForm(polys.get(p))) return STATE;
            Ratio[][] rest = sum(polys.get(p), stretch(m, n, a, b), Ratio.of(-1));
            if (!fits(rest)) return STATE;
            List<Long> numbers = squaresOf(rest);
            if (numbers == null) return NONE;
            numbers.addAll(List.of((long) m, (long) n, (long) a, (long) b));
            return file(3, p, NONE, numbers, null);
        }

        public int proof(int q, int what) {
            if (noPaper(q)) return UNKNOWN;
            if (what < 0 || what > 4) return OUTSIDE;
            Paper one = papers.get(q);
            int many = one.numbers.size();
            int pieces = one.kind == 0 ? many / 5 : one.kind == 3 ? (many - 4) / 5 : one.kind == 2 ? many / 4 : 0;
            return new int[] {one.kind, one.polynomial, many, pieces, one.box}[what];
        }

        public long number(int q, int i) {
            return noPaper(q) || i < 0 || i >= papers.get(q).numbers.size() ? LOST : papers.get(q).numbers.get(i);
        }

        public int forge(int q, int i, long v) {
            if (noPaper(q) || i < 0 || i >= papers.get(q).numbers.size()) return UNKNOWN;
            if (papers.get(q).kind != 1 && (v < -1000000000L || v > 1000000000L)) return OUTSIDE;
            papers.get(q).numbers.set(i, v);
            return 1;
        }

        public int check(int q) {
            if (noPaper(q)) return UNKNOWN;
            Paper one = papers.get(q);
            if (one.kind == 1) {
                long[] s = nine(one.polynomial, one.box);
                for (int k = 0; k < 9; k++) {
                    if (s[k] != one.numbers.get(k)) return -20 - k;
                }
                return 1;
            }
            if (one.kind == 2) {
                for (int i = 0; i < one.cells.size(); i++) {
                    Cell e = one.cells.get(i);
                    List<Long> was = List.of((long) e.a(), (long) e.b(), (long) e.c(), (long) e.d());
                    if (!one.numbers.subList(4 * i, 4 * i + 4).equals(was)) return -20 - i;
                }
                return 1;
            }
            return checkSquares(one);
        }

        private int checkSquares(Paper one) {
            List<Long> v = one.numbers;
            int end = one.kind == 3 ? v.size() - 4 : v.size();
            Ratio[][] all = blank();
            for (int k = 0; k < end; k += 5) {
                if (v.get(k) <= 0 || v.get(k + 1) <= 0) return -29;
                Ratio[][] line = blank();
                line[1][0] = Ratio.of(v.get(k + 2));
                line[0][1] = Ratio.of(v.get(k + 3));
                line[0][0] = Ratio.of(v.get(k + 4));
                all = sum(all, product(line, line), Ratio.of(v.get(k), v.get(k + 1)));
            }
            if (one.kind == 3) {
                if (v.get(end) <= 0 || v.get(end + 1) <= 0) return -29;
                all = sum(all, stretch(v.get(end), v.get(end + 1), v.get(end + 2), v.get(end + 3)), Ratio.of(1));
            }
            for (int t = 0; t < 9; t++) {
                if (!all[t / 3][t % 3].is(polys.get(one.polynomial)[t / 3][t % 3])) return -20 - t;
            }
            return 1;
        }

        public int as(int q, int kind) {
            fault = 0;
            if (noPaper(q)) return UNKNOWN;
            if (kind < 0 || kind > 4) return OUTSIDE;
            int own = papers.get(q).kind;
            boolean is = kind == 4 || kind == own || own == 3 && kind == 0 || own == 2 && kind == 1;
            return is ? 1 : fail(2);
        }

        private void leave(int... bodies) {
            for (int body : bodies) trace = trace * 31 + body;
        }

        public int tell(int q) {
            if (noPaper(q)) return UNKNOWN;
            int many = papers.get(q).numbers.size();
            switch (papers.get(q).kind) {
                case 0: leave(1); return many;
                case 1: leave(3, 1); return many + 9;
                case 2: leave(4, 3, 1); return many;
                default: leave(2, 1); return 2 * many;
            }
        }

        public int cost(int q) {
            if (noPaper(q)) return UNKNOWN;
            int kind = papers.get(q).kind;
            leave(kind == 1 || kind == 2 ? 6 : 5);
            return kind == 1 || kind == 2 ? 7 : 100 + papers.get(q).numbers.size();
        }

        public int trace() {
            return trace;
        }

        public int fault() {
            return fault;
        }

        public int told(int what) {
            return what == 0 ? polys.size() : what == 1 ? boxes.size() : what == 2 ? papers.size() : OUTSIDE;
        }
    }

    /** Makes the calls of a run on both programs and holds their answers against each other. */
    private static final class Run {
        private static final Map<String, Method> OF_CLASS = methodsOf(NeverBelow.class);
        private static final Map<String, Method> OF_MODEL = methodsOf(Model.class);
        static final Map<String, Long> ANSWERS = new HashMap<>();
        private final Random chance;
        private final NeverBelow x = new NeverBelow();
        private final Model y = new Model();
        private final List<String> calls = new ArrayList<>();
        boolean isWrong = false;

        Run(long seed) {
            chance = new Random(seed);
        }

        private static Map<String, Method> methodsOf(Class<?> of) {
            Map<String, Method> all = new HashMap<>();
            for (Method m : of.getDeclaredMethods()) {
                if (java.lang.reflect.Modifier.isPublic(m.getModifiers())) all.put(m.getName(), m);
            }
            return all;
        }

        private long call(String name, long... given) {
            Method m = OF_CLASS.get(name);
            Object[] args = new Object[given.length];
            for (int i = 0; i < given.length; i++) {
                if (m.getParameterTypes()[i] == long.class) args[i] = given[i];
                else args[i] = (int) given[i];
            }
            String text = name + Arrays.toString(args);
            calls.add(text);
            try {
                long want = ((Number) OF_MODEL.get(name).invoke(y, args)).longValue();
                long got = ((Number) m.invoke(x, args)).longValue();
                ANSWERS.merge(name + (want < 0 && want >= -40 ? " " + want : " other"), 1L, Long::sum);
                if (got != want && !isWrong) {
                    isWrong = true;
                    System.out.println(text + " answered " + got + ", due is " + want + ", behind");
                    System.out.println("  " + String.join(" ", calls.subList(Math.max(0, calls.size() - 60), calls.size())));
                }
                return want;
            } catch (InvocationTargetException | IllegalAccessException e) {
                isWrong = true;
                System.out.println(text + " threw " + e.getCause());
                return 0;
            }
        }

        /** low .. high mostly, at times one beside them, seldom one far off. */
        private int near(int low, int high) {
            int r = chance.nextInt(100);
            if (r == 0) return chance.nextBoolean() ? Integer.MIN_VALUE : Integer.MAX_VALUE;
            if (r == 1) return chance.nextInt();
            if (r < 5) return low - 1;
            if (r < 8) return high + 1;
            return high < low ? low : low + chance.nextInt(high - low + 1);
        }

        private int anyPoly() {
            return near(0, y.told(0) - 1);
        }

        private int anyBox() {
            return near(0, y.told(1) - 1);
        }

        private int anyPaper() {
            return near(0, y.told(2) - 1);
        }

        private long anyNumber() {
            switch (chance.nextInt(8)) {
                case 0: return chance.nextLong();
                case 1: return chance.nextInt();
                case 2: return chance.nextBoolean() ? 1000000000L : -1000000000L;
                case 3: return (chance.nextBoolean() ? 1000000000L : -1000000000L) + chance.nextInt(3) - 1;
                case 4: return chance.nextInt(2001) - 1000;
                default: return chance.nextInt(7) - 3;
            }
        }

        /** Lays a polynomial down: some that never fall below nought, some of any numbers. */
        private void layPolynomial() {
            int how = chance.nextInt(6);
            long[] terms = new long[9];
            int size = chance.nextInt(3) == 0 ? 1000 : chance.nextInt(3) == 0 ? 40 : 4;
            if (how < 3) {
                addSquares(terms, size, 1 + chance.nextInt(3));
            } else {
                int upTo = how == 3 ? 9 : 7;
                for (int t = 0; t < upTo; t++) {
                    if (chance.nextInt(3) > 0) terms[t] = chance.nextInt(2 * size + 1) - size;
                }
                if (how == 4) terms[5] = 0;
            }
            if (how == 5) {
                terms[0] += chance.nextInt(20);
                terms[8] = chance.nextInt(3);
            }
            lay(terms);
        }

        private long lay(long[] terms) {
            int lane = 1 + chance.nextInt(2);
            call("sheet", 0, lane, 9);
            for (int t = 0; t < 9; t++) {
                if (terms[t] != 0) call("put", 0, t, terms[t]);
            }
            return call("poly", 0, lane, 0, 9);
        }

        /** A polynomial that is squares and a WEIGHT of (x - a)(b - x), and a PROOF of that. */
        private void laySpanned() {
            long[] terms = new long[9];
            addSquares(terms, 100, chance.nextInt(4));
            int weight = 4 * (1 + chance.nextInt(9));
            int a = chance.nextInt(16) - 8;       // halves
            int b = a + 1 + chance.nextInt(8 - Math.max(a, 0));
            terms[6] -= weight;
            terms[3] += weight / 2 * (a + b);
            terms[0] -= weight / 4 * a * b;
            long p = lay(terms);
            int n = 1 + chance.nextInt(20);
            call("span", p, weight * n, n, 128 * a, 128 * b);
            if (y.told(2) > 0) call("check", y.told(2) - 1);
        }

        /** Until there is no room for more, or almost none. */
        private void fill() {
            long p = lay(new long[] {chance.nextInt(9), 0, 1, 2, 0, 0, 5, 0, 0});
            for (int k = chance.nextInt(30); k < 40; k++) call("squares", p);
            for (int k = chance.nextInt(20); k < 29; k++) layBox();
            for (int k = chance.nextInt(20); k < 29; k++) call("add", p, p, 0);
        }

        private void addSquares(long[] terms, int size, int many) {
            int root = (int) Math.sqrt(size / (2.0 * many)) + 1;
            for (int k = 0; k < many; k++) {
                long a = chance.nextInt(2 * root + 1) - root;
                long b = chance.nextInt(2 * root + 1) - root;
                long c = chance.nextInt(2 * root + 1) - root;
                terms[6] += a * a;
                terms[4] += 2 * a * b;
                terms[3] += 2 * a * c;
                terms[2] += b * b;
                terms[1] += 2 * b * c;
                terms[0] += c * c;
            }
        }

        private void layBox() {
            int wide = new int[] {1, 2, 3, 8, 64, 96, 512, 1024, 4096}[chance.nextInt(9)];
            int high = chance.nextInt(3) == 0 ? wide : new int[] {1, 2, 6, 7, 48, 256, 1000, 4096}[chance.nextInt(8)];
            int a = chance.nextInt(3) == 0 ? -wide / 2 : chance.nextInt(4097 - wide) - 2048;
            int c = chance.nextInt(3) == 0 ? -high / 2 : chance.nextInt(4097 - high) - 2048;
            call("box", a, a + wide, c, c + high);
        }

        private void laySpan() {
            int m = chance.nextInt(4) == 0 ? near(1, 1000) : near(1, 6);
            int n = chance.nextInt(3) == 0 ? near(1, 4) : 1;
            int a = chance.nextInt(4) == 0 ? near(-2048, 2047) : 128 * near(-8, 8);
            int b = chance.nextInt(4) == 0 ? near(-2047, 2048) : 128 * near(-7, 9);
            call("span", anyPoly(), m, n, a, b);
        }

        private void forgeAndCheck() {
            int q = anyPaper();
            long many = call("proof", q, 2);
            if (many <= 0) return;
            int i = chance.nextInt((int) many);
            long was = call("number", q, i);
            switch (chance.nextInt(5)) {
                case 0: call("forge", q, i, -was); break;
                case 1: call("forge", q, i, was + 1); break;
                case 2: scaleWeight(q, i); break;
                default: call("forge", q, i, anyNumber()); break;
            }
            call("check", q);
            if (chance.nextInt(3) > 0) {
                call("forge", q, i, was);
                call("check", q);
            }
        }

        private void scaleWeight(int q, int i) {
            int at = i - i % 5;
            long m = call("number", q, at);
            long n = call("number", q, at + 1);
            long most = Math.max(1, 1000000000L / Math.max(1, Math.max(Math.abs(m), Math.abs(n))));
            long times = chance.nextBoolean() ? most : 1 + chance.nextInt((int) Math.min(most, 1000000));
            call("forge", q, at, m * times);
            call("forge", q, at + 1, n * times);
        }

        private void anySheetCall() {
            switch (chance.nextInt(5)) {
                case 0: call("sheet", near(0, 3), near(0, 2), near(0, 30)); break;
                case 1: call("lose", near(0, 3)); break;
                case 2: call("put", near(0, 3), near(0, 12), anyNumber()); break;
                case 3: call("at", near(0, 3), near(0, 12), near(0, 2)); break;
                default: call("poly", near(0, 3), near(0, 2), near(0, 6), near(0, 9)); break;
            }
            call("fault");
        }

        private void anyPolyCall() {
            switch (chance.nextInt(6)) {
                case 0: call("add", anyPoly(), anyPoly(), chance.nextInt(3) == 0 ? near(-1000, 1000) : near(-3, 3)); break;
                case 1: call("times", anyPoly(), anyPoly()); break;
                case 2: call("slope", anyPoly(), near(0, 1)); break;
                case 3: call("term", anyPoly(), near(0, 8)); break;
                case 4: call("value", anyPoly(), near(-2048, 2048), near(-2048, 2048)); break;
                default: call("same", anyPoly(), anyPoly()); break;
            }
        }

        private void anyBoxCall() {
            switch (chance.nextInt(6)) {
                case 0: call("box", near(-2048, 0), near(-5, 2048), near(-2048, 0), near(-5, 2048)); break;
                case 1: call("side", anyBox(), near(0, 3)); break;
                case 2: call("corner", anyPoly(), anyBox(), near(0, 8)); break;
                case 3: call("bound", anyPoly(), anyBox(), near(0, 1)); break;
                case 4: call("cut", anyBox(), near(0, 1)); break;
                default: layBox(); break;
            }
        }

        private void anyPartsCall() {
            switch (chance.nextInt(8)) {
                case 0: call("parts", anyPoly(), anyBox()); break;
                case 1: call("cover", near(0, 500)); break;
                case 2: call("cover", near(0, 5)); break;
                case 3: call("open", near(0, 4)); break;
                case 4: call("partly", near(0, y.open(0) - 1), near(0, 4)); break;
                case 5: call("where", near(0, 1)); break;
                case 6: call("least"); break;
                default: call("proved"); break;
            }
        }

        private void coverAll() {
            call("parts", anyPoly(), anyBox());
            for (int k = 0; k < 4; k++) call("cover", k == 0 ? near(0, 9) : 500);
            for (int what = 0; what < 5; what++) call("open", what);
            int i = near(0, y.open(0) - 1);
            for (int what = 0; what < 5; what++) call("partly", i, what);
            call("where", 0);
            call("where", 1);
            call("least");
            if (call("proved") >= 0) call("check", y.told(2) - 1);
        }

        private void anyProofCall() {
            switch (chance.nextInt(11)) {
                case 0: call("form", anyPoly(), near(0, 2), near(0, 2)); break;
                case 1: call("squares", anyPoly()); break;
                case 2: call("corners", anyPoly(), anyBox()); break;
                case 3: laySpan(); break;
                case 4: call("proof", anyPaper(), near(0, 4)); break;
                case 5: call("number", anyPaper(), near(0, 14)); break;
                case 6: call("forge", anyPaper(), near(0, 14), anyNumber()); break;
                case 7: call("check", anyPaper()); break;
                case 8: call("as", anyPaper(), near(0, 4)); call("fault"); break;
                case 9: call("tell", anyPaper()); call("trace"); break;
                default: call("cost", anyPaper()); call("trace"); break;
            }
        }

        void go() {
            if (chance.nextInt(6) == 0) fill();
            while (calls.size() < CALLS && !isWrong) {
                int r = chance.nextInt(100);
                if (r < 6) layPolynomial();
                else if (r < 8) laySpanned();
                else if (r < 20) anySheetCall();
                else if (r < 35) anyPolyCall();
                else if (r < 48) anyBoxCall();
                else if (r < 58) anyPartsCall();
                else if (r < 62) coverAll();
                else if (r < 85) anyProofCall();
                else if (r < 98) forgeAndCheck();
                else call("told", near(0, 2));
            }
        }
    }

    public static void main(String[] args) {
        int wrong = 0;
        for (int seed = 0; seed < RUNS && wrong < 5; seed++) {
            Run run = new Run(seed);
            run.go();
            wrong += run.isWrong ? 1 : 0;
        }
        if (args.length > 0) {
            Run.ANSWERS.entrySet().stream().sorted(Map.Entry.comparingByKey()).forEach(System.out::println);
        }
        System.out.println(RUNS + " runs against the model, " + wrong + " are not as due");
        if (wrong != 0) {
            System.exit(1);
        }
    }
}
