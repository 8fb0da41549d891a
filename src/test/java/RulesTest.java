import java.io.IOException;
import java.lang.reflect.Array;
import java.lang.reflect.Constructor;
import java.lang.reflect.Field;
import java.lang.reflect.Method;
import java.lang.reflect.Modifier;
import java.nio.file.Files;
import java.nio.file.Paths;
import java.util.Arrays;
import java.util.Collections;
import java.util.IdentityHashMap;
import java.util.List;
import java.util.Set;
import java.util.TreeSet;

/** The document's face, the rules of LANGUAGE.md as far as Rules reads them, and the room that an object takes. */
public final class RulesTest {
    private static final String SOURCE = "src/main/java/SundayIsAPlace.java";
    private static final int MOST_OBJECTS = 200;
    private static final int MOST_PLACES = 4000;

    private static final String FACE = "row(int,int,int)int set(int,int,long)int copy(int,int,int,int,int)int "
        + "element(int,int)long holds(int)int show(int,int)int says(int,int)int ask(int,int,int)int "
        + "pass(int,int,int,int)int person(int,int,int)int duty(int,int,boolean)int tell(int,int,int)int feed(int)int "
        + "wipe()int land()int valleyOf(int,int)int passOf(int,int)int personOf(int,int)int price(int,int,int)int "
        + "way(int,int,int)int tour(int,int)int route(int,int,int)int tourOf(int,int)int saved(int)int bestPass()int "
        + "first(int)int works(int)int steps(int,int)int within(int,int,int)int crowd()int ring(int)int "
        + "dearest(int)int alike(int,int)int homes(int)int market()int meet(int)int journeys(int,int,int,int)int "
        + "judge(int,int,int)int behind(int,int,int,int)int done(int,int,int)int longest(int)int act(int,int)int "
        + "weeks(int)int seed(int)int image()int back()int status(int)int";

    private static void fits(String what, boolean is) {
        Due.is(what, is ? 1 : 0, 1);
    }

    private static String signature(Method m) {
        StringBuilder b = new StringBuilder(m.getName()).append('(');
        for (Class<?> p : m.getParameterTypes()) {
            b.append(b.charAt(b.length() - 1) == '(' ? "" : ",").append(p.getName());
        }
        return b.append(')').append(m.getReturnType().getName()).toString();
    }

    private static void face() {
        Class<?> c = SundayIsAPlace.class;
        fits("public and final", c.getModifiers() == (Modifier.PUBLIC | Modifier.FINAL));
        Set<String> due = new TreeSet<>(Arrays.asList(FACE.split(" ")));
        Set<String> found = new TreeSet<>();
        for (Method m : c.getDeclaredMethods()) {
            if (Modifier.isPublic(m.getModifiers())) {
                found.add(signature(m));
                fits(m + " is of the object", !Modifier.isStatic(m.getModifiers()));
            } else {
                fits(m + " is private", Modifier.isPrivate(m.getModifiers()));
            }
        }
        Due.is("methods of the document", due.size(), 47);
        fits("the face is " + due + ", found " + found, due.equals(found));
        for (Field f : c.getDeclaredFields()) {
            boolean none = f.getName().equals("NONE") && Modifier.isPublic(f.getModifiers());
            fits(f + " is private", none || Modifier.isPrivate(f.getModifiers()));
        }
        Constructor<?>[] made = c.getDeclaredConstructors();
        fits("one constructor", made.length == 1 && made[0].getParameterCount() == 0
            && Modifier.isPublic(made[0].getModifiers()));
    }

    /** Each row is a rule of LANGUAGE.md and members that break it. */
    private static final String[][] BROKEN = {
        {"1", "int open() { return 0; }"},
        {"1", "int open;"},
        {"1", "public static class Open { }"},
        {"1", "private static int ask(int v, int w) { return v; }"},
        {"1", "private static class In { int ask(int v) { return v; } }"},
        {"2", "private class In { }"},
        {"2", "private int in() { class In { } return 0; }"},
        {"2", "private interface F { int of(int v); } private final F f = v -> v;"},
        {"2", "private interface F { int of(int v); } private final F f = Math::abs;"},
        {"2", "private interface F { int of(int v); } "
            + "private final F f = new F() { public int of(int v) { return v; } };"},
        {"3", "private int of() { Object o = null; return 0; }"},
        {"3", "private final int[][][] cube = new int[1][1][1];"},
        {"3", "private final String[][] texts = null;"},
        {"3", "private java.util.Map<Integer, Integer> map() { return null; }"},
        {"4", "private int most() { return Integer.MAX_VALUE; }"},
        {"4", "private long most() { return Long.MIN_VALUE; }"},
        {"4", "private int made() { return Math.addExact(1, 2); }"},
        {"4", "private double made() { return Math.max(1.0, 2.0); }"},
        {"4", "private int made(String s) { return Integer.parseInt(s); }"},
        {"4", "private void sort(int[] v) { Arrays.sort(v); }"},
        {"4", "private void fill(String[] v) { Arrays.fill(v, null); }"},
        {"4", "private int where(String s) { return s.indexOf(s); }"},
        {"4", "private void tell() { System.out.println(); }"},
        {"4", "private final String sign = \"\\u00e9\";"},
        {"5", "private static int count = 0;"},
        {"5", "private static final StringBuilder TEXT = new StringBuilder();"},
        {"5", "private static final int[] ROW = {1, 2}; private void of() { ROW[0] = 2; }"},
        {"5", "private static final int[] ROW = {1, 2}; private void of() { ROW[0]++; }"},
        {"5", "private static final int[] ROW = {1, 2}; private int[] of() { return ROW; }"},
        {"5", "static { }"},
        {"6", "private int of() { try { return 1; } finally { } }"},
        {"6", "private int of() { throw new IllegalStateException(); }"},
        {"6", "private void of() { assert ask(1) == 1; }"},
        {"6", "private void of() { synchronized (this) { } }"},
        {"6", "private synchronized void of() { }"},
        {"6", "private boolean of(String a, String b) { return a == b; }"},
        {"6", "private boolean of(Integer a, Integer b) { return a != b; }"},
        {"7", "private int of(int a, int b) { return a / b; }"},
        {"7", "private int of(int a, int b) { return a % (b); }"},
        {"7", "private int of(int a, int b) { a /= b; return a; }"},
        {"7", "private int of(int a) { return a / 0; }"},
        {"8", "private int of(int a) { return a > 0 ? of(a - 1) : 0; }"},
        {"8", "private int of(int a) { return by(a); } private int by(int a) { return a > 0 ? of(a) : 0; }"},
        {"9", "private void of() { while (true) { ask(1); } }"},
        {"9", "private void of() { do { ask(1); } while (true); }"},
        {"9", "private void of() { for (;;) { ask(1); } }"},
        {"10", "private String of(int a) { return \"a\" + a; }"},
        {"10", "private String of(String a) { a += \"b\"; return a; }"},
        {"10", "private int of(String a) { switch (a) { default: return 1; } }"},
        {"11", "private void of(int a, int b, int c, int d, int e, int f, int g, int h) { }"},
        {"11", "private void of() {" + "\n".repeat(60) + "}"},
        {"11", fields(21)},
        {"11", classes(12)},
        {"11", chain(9)},
        {"12", "private int[] of() { return new int[1]; }"},
        {"12", "private String of() { return new StringBuilder().toString(); }"}};

    /** What keeps to the rules, though near to what breaks them. */
    private static final String[] KEPT = {
        "private static final int[] ROW = {1, 2}; private int of(int i) { return i >= 0 && i < ROW.length ? ROW[i] : 0; }",
        "private int of(int a, int b) { return b <= 0 ? 0 : a / b; }",
        "private int of(int a) { return a / 2 % NONE; }",
        "private void of(long[] v) { Arrays.fill(v, 1L); System.arraycopy(v, 0, v.clone(), 0, v.length); }",
        "private int of(String s) { return s.indexOf('a'); }",
        "private final ArrayList<Integer> list = new ArrayList<>();",
        "private final StringBuilder text = new StringBuilder(); private void of() { text.append('a').append(1); }",
        "private static final class In { final int[][] table = new int[2][3]; In() { } int of() { return 0; } }",
        "private void of(int a, int b, int c, int d, int e, int f, int g) { }",
        "private void of() {" + "\n".repeat(59) + "}",
        fields(20),
        classes(11),
        chain(8)};

    private static String fields(int n) {
        StringBuilder b = new StringBuilder();
        for (int i = 0; i < n; i++) {
            b.append("private int field").append(i).append("; ");
        }
        return b.toString();
    }

    private static String classes(int n) {
        StringBuilder b = new StringBuilder();
        for (int i = 0; i < n; i++) {
            b.append("private static final class In").append(i).append(" { } ");
        }
        return b.toString();
    }

    /** So many methods, each of which calls the next. */
    private static String chain(int n) {
        StringBuilder b = new StringBuilder();
        for (int i = 1; i < n; i++) {
            b.append("private int of").append(i).append("() { return of").append(i + 1).append("(); } ");
        }
        return b.append("private int of").append(n).append("() { return 0; }").toString();
    }

    private static List<String> faultsWith(String members) throws IOException {
        return Rules.faultsOf("SundayIsAPlace", "import java.util.ArrayList;\nimport java.util.Arrays;\n"
            + "public final class SundayIsAPlace {\npublic static final int NONE = -1;\n"
            + "public SundayIsAPlace() { }\npublic int ask(int v) { return v; }\n" + members + "\n}\n");
    }

    private static void keepsTheRules() throws IOException {
        String source = new String(Files.readAllBytes(Paths.get(SOURCE)));
        for (String fault : Rules.faultsOf("SundayIsAPlace", source)) {
            fits("LANGUAGE.md is kept; broken is rule " + fault, false);
        }
    }

    /** If a rule were broken, Rules would find it; else that the class keeps them would tell nothing. */
    private static void brokenRulesAreFound() throws IOException {
        for (String[] broken : BROKEN) {
            List<String> faults = faultsWith(broken[1]);
            boolean found = faults.stream().anyMatch(f -> f.startsWith(broken[0] + ": "));
            fits("rule " + broken[0] + " is broken by " + broken[1] + ", found " + faults, found);
        }
        for (String kept : KEPT) {
            List<String> faults = faultsWith(kept);
            fits("the rules are kept by " + kept + ", found " + faults, faults.isEmpty());
        }
    }

    /** All that one object is made of: as no call makes more (Rules sees to that), any number of calls needs no more. */
    private static void room() throws IllegalAccessException {
        Set<Object> seen = Collections.newSetFromMap(new IdentityHashMap<>());
        long places = placesOf(new SundayIsAPlace(), seen);
        fits("objects and arrays: " + seen.size(), seen.size() <= MOST_OBJECTS);
        fits("fields and elements: " + places, places <= MOST_PLACES);
    }

    private static long placesOf(Object o, Set<Object> seen) throws IllegalAccessException {
        if (o == null || !seen.add(o)) {
            return 0;
        }
        long places = 0;
        if (o.getClass().isArray()) {
            places = Array.getLength(o);
            for (int i = 0; i < Array.getLength(o) && !o.getClass().getComponentType().isPrimitive(); i++) {
                places += placesOf(Array.get(o, i), seen);
            }
            return places;
        }
        for (Field f : o.getClass().getDeclaredFields()) {
            if (!Modifier.isStatic(f.getModifiers())) {
                f.setAccessible(true);
                places += 1 + (f.getType().isPrimitive() ? 0 : placesOf(f.get(o), seen));
            }
        }
        return places;
    }

    public static void main(String[] args) throws IOException, IllegalAccessException {
        face();
        keepsTheRules();
        brokenRulesAreFound();
        room();
        Due.end("RulesTest");
    }
}
