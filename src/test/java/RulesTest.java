import java.io.IOException;
import java.lang.reflect.Constructor;
import java.lang.reflect.Field;
import java.lang.reflect.Method;
import java.lang.reflect.Modifier;
import java.nio.file.Files;
import java.nio.file.Paths;
import java.util.Arrays;
import java.util.HashSet;
import java.util.Set;
import java.util.TreeSet;
import java.util.regex.Matcher;
import java.util.regex.Pattern;

/** The document's face, and those rules of LANGUAGE.md that a look at the class and its text can tell. */
public final class RulesTest {
    private static final String SOURCE = "src/main/java/SundayIsAPlace.java";

    private static final String FACE = "row(int,int,int)int set(int,int,long)int copy(int,int,int,int,int)int "
        + "element(int,int)long holds(int)int show(int,int)int says(int,int)int ask(int,int,int)int "
        + "pass(int,int,int,int)int person(int,int,int)int duty(int,int,boolean)int tell(int,int,int)int feed(int)int "
        + "wipe()int land()int valleyOf(int,int)int passOf(int,int)int personOf(int,int)int price(int,int,int)int "
        + "way(int,int,int)int tour(int,int)int route(int,int,int)int tourOf(int,int)int saved(int)int bestPass()int "
        + "first(int)int works(int)int steps(int,int)int within(int,int,int)int crowd()int ring(int)int "
        + "dearest(int)int alike(int,int)int homes(int)int market()int meet(int)int journeys(int,int,int,int)int "
        + "judge(int,int,int)int behind(int,int,int,int)int done(int,int,int)int longest(int)int act(int,int)int "
        + "weeks(int)int seed(int)int image()int back()int status(int)int";

    private static final String[] FORBIDDEN = {
        "\\b(throw|throws|try|catch|finally|synchronized|assert|volatile|native|package|protected)\\b",
        "\\b(Object|Thread|Random|Runtime|Class|Exception|Error|Throwable|Character|Boolean|Map|HashMap|Set)\\b",
        "->", "::", "Exact\\b", "\\b(equals|hashCode|toString|getClass|format|valueOf)\\s*\\(",
        "\\bSystem\\.(?!arraycopy\\b)", "\\bArrays\\.(?!copyOf\\b|copyOfRange\\b|fill\\b)", "@"};

    private static void fits(String what, boolean is) {
        Due.is(what, is ? 1 : 0, 1);
    }

    private static String signature(Method m) {
        StringBuilder b = new StringBuilder(m.getName()).append('(');
        for (Class<?> p : m.getParameterTypes()) {
            b.append(b.charAt(b.length() - 1) == '(' ? "" : ",").append(p.getName());
        }
        return b.append(')').append(m.getReturnType().getName()).toString();
    }

    private static void face() throws NoSuchFieldException {
        Class<?> c = SundayIsAPlace.class;
        fits("public and final", c.getModifiers() == (Modifier.PUBLIC | Modifier.FINAL));
        Set<String> due = new TreeSet<>(Arrays.asList(FACE.split(" ")));
        Set<String> found = new TreeSet<>();
        for (Method m : c.getDeclaredMethods()) {
            if (Modifier.isPublic(m.getModifiers())) {
                found.add(signature(m));
                fits(m + " is of the object", !Modifier.isStatic(m.getModifiers()));
            } else {
                fits(m + " is private", Modifier.isPrivate(m.getModifiers()));
            }
        }
        Due.is("methods of the document", due.size(), 47);
        fits("the face is " + due + ", found " + found, due.equals(found));
        for (Field f : c.getDeclaredFields()) {
            boolean none = f.getName().equals("NONE") && Modifier.isPublic(f.getModifiers());
            fits(f + " is private", none || Modifier.isPrivate(f.getModifiers()));
        }
        Constructor<?>[] made = c.getDeclaredConstructors();
        fits("one constructor", made.length == 1 && made[0].getParameterCount() == 0
            && Modifier.isPublic(made[0].getModifiers()));
    }

    private static void inside() {
        Set<String> face = new HashSet<>();
        for (Method m : SundayIsAPlace.class.getMethods()) {
            face.add(m.getName());
        }
        Class<?>[] classes = SundayIsAPlace.class.getDeclaredClasses();
        fits("some twelve classes", classes.length + 1 <= 12);
        for (Class<?> c : classes) {
            fits(c + " is static and not public",
                Modifier.isStatic(c.getModifiers()) && !Modifier.isPublic(c.getModifiers()));
            for (Method m : c.getDeclaredMethods()) {
                fits(m + " bears no public name", !face.contains(m.getName()));
                fits(m + " has few parameters", m.getParameterCount() <= 7);
            }
            fields(c);
        }
        fields(SundayIsAPlace.class);
    }

    private static void fields(Class<?> c) {
        int own = 0;
        for (Field f : c.getDeclaredFields()) {
            if (Modifier.isStatic(f.getModifiers())) {
                fits(f + " is final", Modifier.isFinal(f.getModifiers()));
            } else {
                own++;
            }
        }
        fits("some twenty fields in " + c, own <= 20);
    }

    private static void text() throws IOException {
        String source = new String(Files.readAllBytes(Paths.get(SOURCE)));
        String bare = source.replaceAll("(?s)/\\*.*?\\*/", "").replaceAll("//[^\n]*", "")
            .replaceAll("\"[^\"\n]*\"", "\"\"").replaceAll("'[^'\n]+'", "''");
        for (String no : FORBIDDEN) {
            Matcher m = Pattern.compile(no).matcher(bare);
            fits(no + " stands nowhere", !m.find());
        }
        Matcher imports = Pattern.compile("\\bimport\\s+([^;]+);").matcher(bare);
        while (imports.find()) {
            fits("import " + imports.group(1), imports.group(1).equals("java.util.Arrays"));
        }
        int start = 0;
        String[] lines = bare.split("\n");
        for (int i = 0; i < lines.length; i++) {
            start = lines[i].matches(" {4,8}(\\w|\\[|\\]|<|>| )+\\([^;]*\\{") ? i : start;
            boolean ends = lines[i].matches(" {4,8}\\}");
            fits("a method ends within sixty lines, line " + (i + 1), !ends || i - start < 60 || lines[start].contains("class"));
        }
    }

    public static void main(String[] args) throws IOException, NoSuchFieldException {
        face();
        inside();
        text();
        Due.end("RulesTest");
    }
}
