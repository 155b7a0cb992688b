import java.lang.reflect.InvocationTargetException;
import java.lang.reflect.Method;
import java.util.ArrayList;
import java.util.Arrays;
import java.util.HashMap;
import java.util.List;
import java.util.Map;
import java.util.Set;

/**
 * An object of NeverBelow whose calls are written down. A refused call is made on a twin that the same calls have
 * brought to the same state, and all that can be asked of that twin is held against one that was spared the call.
 */
final class Bench implements Words {
    private static final int MOST_CALLS = 512;
    private static final long THREW = Long.MIN_VALUE + 1;
    private static final Set<String> NAMING_FAULTS = Set.of("sheet", "put", "at", "poly", "as");
    private static final Map<String, Method> METHODS = methods();
    private static final int[][] OF_POWERS = {{1, -2, 1}, {0, 2, -2}, {0, 0, 1}};

    private record Call(String name, long... given) {
        long on(NeverBelow x) {
            Method m = METHODS.get(name);
            Object[] args = new Object[given.length];
            for (int i = 0; i < given.length; i++) {
                if (m.getParameterTypes()[i] == long.class) args[i] = given[i];
                else args[i] = Math.toIntExact(given[i]);
            }
            try {
                return ((Number) m.invoke(x, args)).longValue();
            } catch (InvocationTargetException e) {
                Sentences.tell(text() + " threw " + e.getCause());
                return THREW;
            } catch (IllegalAccessException e) {
                throw new IllegalStateException(e);
            }
        }

        String text() {
            String args = Arrays.toString(given);
            return name + "(" + args.substring(1, args.length() - 1) + ")";
        }
    }

    private final List<Call> calls = new ArrayList<>();
    private final NeverBelow x = new NeverBelow();

    private static Map<String, Method> methods() {
        Map<String, Method> all = new HashMap<>();
        for (Method m : NeverBelow.class.getMethods()) {
            if (m.getDeclaringClass() == NeverBelow.class) all.put(m.getName(), m);
        }
        return all;
    }

    static Set<String> names() {
        return METHODS.keySet();
    }

    static int takes(String name) {
        return METHODS.get(name).getParameterCount();
    }

    static boolean answersLong(String name) {
        return METHODS.get(name).getReturnType() == long.class;
    }

    /** How many calls were made. */
    int many() {
        return calls.size();
    }

    long ask(String name, long... given) {
        Call call = new Call(name, given);
        calls.add(call);
        if (calls.size() > MOST_CALLS) throw new IllegalStateException("what later calls answer is free");
        return call.on(x);
    }

    void due(long want, String name, long... given) {
        long got = ask(name, given);
        Sentences.holds(calls.get(calls.size() - 1).text(), got, want);
    }

    /** The same call of each of what = 0, 1, 2 .. */
    void dueRow(String name, long[] ahead, long... wants) {
        for (int what = 0; what < wants.length; what++) {
            long[] given = Arrays.copyOf(ahead, ahead.length + 1);
            given[ahead.length] = what;
            due(wants[what], name, given);
        }
    }

    /** It answers this refusal and changes nothing, but fault() to 0 where it names FAULTS. */
    void refused(long want, String name, long... given) {
        changesNothing(new Call(name, given), want, 0);
    }

    /** It comes to this FAULT and changes nothing but fault(). */
    void faulted(int fault, String name, long... given) {
        changesNothing(new Call(name, given), answersLong(name) ? LOST : -10 - fault, fault);
    }

    private void changesNothing(Call call, long want, int fault) {
        List<Call> looks = looks();
        int most = MOST_CALLS - calls.size() - 3;
        for (int from = 0; from < looks.size(); from += most) {
            if (!leaves(call, want, fault, looks.subList(from, Math.min(looks.size(), from + most)))) return;
        }
        leaves(call, want, fault, goingOn());
    }

    private boolean leaves(Call call, long want, int fault, List<Call> looks) {
        NeverBelow with = twin();
        NeverBelow spared = twin();
        // another FAULT ahead of the call, so that it is seen whether the call leaves it
        Call ahead = fault == SIZE ? new Call("put", 0, -1, 0) : new Call("sheet", 0, 0, -1);
        ahead.on(with);
        ahead.on(spared);
        if (!Sentences.holds(call.text(), call.on(with), want)) return false;
        long faultDue = NAMING_FAULTS.contains(call.name) ? fault : spared.fault();
        if (!Sentences.holds("fault() behind " + call.text(), with.fault(), faultDue)) return false;
        for (Call look : looks) {
            if (!Sentences.holds(look.text() + " behind " + call.text(), look.on(with), look.on(spared))) return false;
        }
        return true;
    }

    private NeverBelow twin() {
        NeverBelow other = new NeverBelow();
        for (Call call : calls) call.on(other);
        return other;
    }

    private List<Call> looks() {
        NeverBelow scout = twin();
        List<Call> looks = new ArrayList<>();
        looks.add(new Call("trace"));
        looks.add(new Call("least"));
        for (int what = 0; what < 5; what++) looks.add(new Call("open", what));
        for (int what = 0; what < 3; what++) looks.add(new Call("told", what));
        for (int what = 0; what < 2; what++) looks.add(new Call("where", what));
        for (int k = 0; k < 4; k++) {
            for (int lane = 0; lane < 3; lane++) lookAtSheet(looks, k, lane);
        }
        for (int p = 0; p <= scout.told(0); p++) lookRow(looks, "term", p, 9);
        for (int box = 0; box <= scout.told(1); box++) lookRow(looks, "side", box, 4);
        for (int i = 0; i <= scout.open(0); i++) lookRow(looks, "partly", i, 5);
        for (int q = 0; q <= scout.told(2); q++) {
            lookRow(looks, "proof", q, 5);
            lookRow(looks, "number", q, Math.max(0, scout.proof(q, 2)));
            looks.add(new Call("check", q));
        }
        return looks;
    }

    private static void lookAtSheet(List<Call> looks, int k, int lane) {
        looks.add(new Call("at", k, 0, lane));
        looks.add(new Call("fault"));
        for (int i = 0; i <= 30; i++) looks.add(new Call("at", k, i, lane));
    }

    private static void lookRow(List<Call> looks, String name, int of, int many) {
        for (int what = 0; what < many; what++) looks.add(new Call(name, of, what));
    }

    /** What shows of the PARTS only as they go on: which polynomial and BOX they are of. */
    private List<Call> goingOn() {
        List<Call> going = new ArrayList<>();
        going.add(new Call("cover", 500));
        for (int what = 0; what < 5; what++) going.add(new Call("open", what));
        going.add(new Call("least"));
        going.add(new Call("proved"));
        lookRow(going, "proof", twin().told(2), 5);
        return going;
    }

    // ---- ways to lay things down

    /** Lays TERMS 0 .. n - 1 on SHEET 3 as longs and makes a POLYNOMIAL of them. */
    long lay(long... terms) {
        ask("sheet", 3, 2, terms.length);
        for (int t = 0; t < terms.length; t++) {
            if (terms[t] != 0) ask("put", 3, t, terms[t]);
        }
        return ask("poly", 3, 2, 0, terms.length);
    }

    /** A POLYNOMIAL of one TERM. */
    long layTerm(int t, long v) {
        long[] terms = new long[9];
        terms[t] = v;
        return lay(terms);
    }

    /** The TERMS of the polynomial whose CORNERS are these times ONE on the BOX 0, 256, 0, 256. */
    static long[] termsOfCorners(long... nine) {
        long[] terms = new long[9];
        for (int k = 0; k < 9; k++) {
            for (int t = 0; t < 9; t++) {
                terms[t] += nine[k] * OF_POWERS[k / 3][t / 3] * OF_POWERS[k % 3][t % 3];
            }
        }
        return terms;
    }

    /** Nine numbers, all alike but one. */
    static long[] nineBut(int k, long one, long others) {
        long[] nine = new long[9];
        Arrays.fill(nine, others);
        nine[k] = one;
        return nine;
    }

    void fillPolynomials(int upTo) {
        long told = ask("told", 0);
        ask("sheet", 3, 0, 0);
        for (long k = told; k < upTo; k++) ask("poly", 3, 0, 0, 0);
    }

    void fillBoxes(int upTo) {
        for (long k = ask("told", 1); k < upTo; k++) ask("box", 0, 2, 0, 2);
    }

    /** Of a polynomial that has SQUARES. */
    void fillProofs(int upTo, long p) {
        for (long k = ask("told", 2); k < upTo; k++) ask("squares", p);
    }
}
