import java.io.IOException;
import java.lang.management.ManagementFactory;
import java.lang.reflect.Constructor;
import java.lang.reflect.Field;
import java.lang.reflect.Method;
import java.lang.reflect.Modifier;
import java.nio.charset.StandardCharsets;
import java.nio.file.Files;
import java.nio.file.Path;
import java.util.ArrayList;
import java.util.Arrays;
import java.util.List;
import java.util.Set;
import java.util.TreeSet;
import java.util.regex.Matcher;
import java.util.regex.Pattern;

/** The document's face, the rules of LANGUAGE.md that can be looked up, and the room that calls take. */
public final class LanguageTests {
    private static final String FACE = """
        int sheet(int,int,int); int lose(int); int put(int,int,long); long at(int,int,int);
        int poly(int,int,int,int); int add(int,int,int); int times(int,int); int slope(int,int);
        long term(int,int); long value(int,int,int); int same(int,int); int box(int,int,int,int);
        int side(int,int); long corner(int,int,int); long bound(int,int,int); int cut(int,int);
        int parts(int,int); int cover(int); int open(int); int partly(int,int); int where(int); long least();
        long form(int,int,int); int squares(int); int corners(int,int); int proved();
        int span(int,int,int,int,int); int proof(int,int); long number(int,int); int forge(int,int,long);
        int check(int); int as(int,int); int tell(int); int cost(int); int trace(); int fault(); int told(int)""";
    private static int wrong = 0;

    private static void hold(String what, boolean holds) {
        if (!holds) {
            wrong++;
            System.out.println("does not hold: " + what);
        }
    }

    private static String textOf(Method m) {
        List<String> types = new ArrayList<>();
        for (Class<?> type : m.getParameterTypes()) {
            types.add(type.getName());
        }
        return m.getReturnType().getName() + " " + m.getName() + "(" + String.join(",", types) + ")";
    }

    private static void face() throws ReflectiveOperationException {
        Class<?> of = NeverBelow.class;
        hold("public and final", Modifier.isPublic(of.getModifiers()) && Modifier.isFinal(of.getModifiers()));
        Set<String> want = new TreeSet<>(Arrays.asList(FACE.trim().split(";\\s*")));
        Set<String> got = new TreeSet<>();
        for (Method m : of.getDeclaredMethods()) {
            if (Modifier.isPrivate(m.getModifiers()) || m.isSynthetic()) {
                continue;
            }
            hold(m + " is public and no more", m.getModifiers() == Modifier.PUBLIC);
            got.add(textOf(m));
        }
        hold("the methods are those of the face: " + got, got.equals(want));
        Constructor<?>[] makers = of.getDeclaredConstructors();
        hold("one public constructor", makers.length == 1 && makers[0].getParameterCount() == 0
            && Modifier.isPublic(makers[0].getModifiers()));
        String[] names = {"UNKNOWN", "OUTSIDE", "STATE", "FULL", "NONE"};
        int[] values = {-1, -2, -3, -4, -9};
        for (int i = 0; i < names.length; i++) {
            hold(names[i], of.getField(names[i]).getInt(null) == values[i]);
        }
        hold("LOST", of.getField("LOST").getLong(null) == Long.MIN_VALUE);
        hold("no other public field", of.getFields().length == names.length + 1);
    }

    private static List<Class<?>> classes() {
        List<Class<?>> all = new ArrayList<>();
        all.add(NeverBelow.class);
        all.addAll(Arrays.asList(NeverBelow.class.getDeclaredClasses()));
        return all;
    }

    private static void members() {
        Set<String> names = new TreeSet<>();
        for (Method m : NeverBelow.class.getMethods()) {
            if (m.getDeclaringClass() == NeverBelow.class) {
                names.add(m.getName());
            }
        }
        hold("at most twelve classes", classes().size() <= 12);
        for (Class<?> of : classes()) {
            int fields = 0;
            for (Field f : of.getDeclaredFields()) {
                boolean isStatic = Modifier.isStatic(f.getModifiers());
                hold(f + " is final, being static", !isStatic || Modifier.isFinal(f.getModifiers()));
                hold(f + " is private or of the face", of != NeverBelow.class
                    || Modifier.isPrivate(f.getModifiers()) || Modifier.isPublic(f.getModifiers()) && isStatic);
                fields += isStatic ? 0 : 1;
            }
            hold(of + " has at most twenty fields", fields <= 20);
            hold(of + " is static", of == NeverBelow.class || Modifier.isStatic(of.getModifiers()));
            hold(of + " has no class inside", of == NeverBelow.class || of.getDeclaredClasses().length == 0);
            for (Method m : of.getDeclaredMethods()) {
                hold(m + " takes at most seven", m.getParameterCount() <= 7);
                boolean own = of == NeverBelow.class && Modifier.isPublic(m.getModifiers());
                hold(m + " bears no public one's name", own || !names.contains(m.getName()));
            }
        }
    }

    private static String withoutComments(String text) {
        return text.replaceAll("(?s)/\\*.*?\\*/", " ").replaceAll("//[^\n]*", " ");
    }

    private static void source() throws IOException {
        String path = System.getProperty("program", "src/main/java/NeverBelow.java");
        String text = withoutComments(Files.readString(Path.of(path), StandardCharsets.ISO_8859_1));
        String[] words = {"throw", "throws", "try", "catch", "finally", "synchronized", "assert", "package", "protected",
            "Exception", "Object", "BigInteger", "Random", "Thread", "hashCode", "toString", "volatile", "native"};
        for (String word : words) {
            hold("no " + word, !Pattern.compile("\\b" + word + "\\b").matcher(text).find());
        }
        hold("no lambda, no method reference", !text.contains("->") && !text.contains("::"));
        hold("no ..Exact", !text.contains("Exact("));
        hold("no static block", !Pattern.compile("static\\s*\\{").matcher(text).find());
        Matcher imports = Pattern.compile("import\\s+([\\w.*]+)").matcher(text);
        while (imports.find()) {
            hold("import " + imports.group(1), imports.group(1).equals("java.util.Arrays"));
        }
        Matcher calls = Pattern.compile("\\b(Math|Arrays|System|Long|Integer)\\.(\\w+)").matcher(text);
        Set<String> may = Set.of("Math.max", "Math.min", "Math.abs", "Arrays.copyOf", "Arrays.copyOfRange", "Arrays.fill",
            "System.arraycopy", "Long.MIN_VALUE", "Long.MAX_VALUE");
        while (calls.find()) {
            hold(calls.group() + " is of the library", may.contains(calls.group()));
        }
        methodsAreShort(text);
    }

    private static void methodsAreShort(String text) {
        int since = 0;
        int at = 0;
        for (String line : text.split("\n")) {
            at++;
            if (Pattern.matches(" {4}(\\w.*)?\\(.*\\{| {8}(\\w.*)?\\(.*\\{", line)) {
                since = at;
            }
            if (line.equals("    }") || line.equals("        }")) {
                hold("the method that ends in line " + at + " has at most sixty lines", at - since < 60);
                since = at;
            }
        }
    }

    /** The dearest calls, as many as an object is used for; its room is 7.3 million cells of up to 8 bytes. */
    private static void room() {
        com.sun.management.ThreadMXBean threads =
            (com.sun.management.ThreadMXBean) ManagementFactory.getThreadMXBean();
        long self = Thread.currentThread().getId();
        for (int which = 0; which < 9; which++) {
            long before = threads.getThreadAllocatedBytes(self);
            dearRun(which);
            long bytes = threads.getThreadAllocatedBytes(self) - before;
            hold("run " + which + " takes " + bytes + " bytes, less than 2 million", bytes < 2000000);
        }
    }

    private static void dearRun(int which) {
        NeverBelow x = new NeverBelow();
        x.sheet(0, 2, 30);
        x.put(0, 0, 3);
        x.put(0, 2, 2);
        x.put(0, 6, 2);
        x.put(0, 11, 1);
        x.put(0, 13, -2);
        x.put(0, 15, 1);
        x.poly(0, 2, 0, 9);
        x.poly(0, 2, 9, 9);
        x.poly(0, 2, 0, 2);
        x.box(-2048, 2048, -2048, 2048);
        x.box(0, 256, 0, 256);
        x.squares(0);
        x.corners(0, 1);
        x.parts(0, 0);
        x.cover(500);
        x.proved();
        for (int k = 0; k < 490; k++) {
            switch (which) {
                case 0: x.sheet(k % 4, 2, 30); break;
                case 1: x.times(0, 2); break;
                case 2: x.squares(0); break;
                case 3: x.span(0, 1, 1, 0, 256); break;
                case 4: x.proved(); break;
                case 5: x.check(k % 3); break;
                case 6: x.corners(0, 1); break;
                case 7: x.least(); break;
                default:
                    x.parts(1, 0);
                    x.cover(500);
                    break;
            }
        }
    }

    public static void main(String[] args) throws Exception {
        face();
        members();
        source();
        room();
        System.out.println(wrong == 0 ? "face, language and room are as due" : wrong + " rules do not hold");
        if (wrong != 0) {
            System.exit(1);
        }
    }
}
