import java.io.IOException;
import java.lang.reflect.Method;
import java.lang.reflect.Modifier;
import java.net.URL;
import java.net.URLClassLoader;
import java.nio.file.Files;
import java.nio.file.Path;
import java.nio.file.Paths;
import java.util.ArrayList;
import java.util.List;
import java.util.Set;
import java.util.TreeSet;
import java.util.regex.Matcher;
import java.util.regex.Pattern;
import javax.tools.ToolProvider;

/**
 * README.md does what it says: the calls of its example answer what stands behind them, its commands can be run and
 * end as they should, and it names all calls and all tests.
 */
public final class ReadmeTest {
    private static final Path README = Paths.get("README.md");
    private static final Path TESTS = Paths.get("src/test/java");
    private static final String RUN = ".ci/run";
    private static final Pattern ANSWERED = Pattern.compile("(?:(int|long) (\\w+) = )?(x\\..+\\)); +// (-?\\d+)(:.*)?");
    private static final Pattern CALLED = Pattern.compile("\\bx\\.(\\w+)\\(");
    private static final Pattern NAMED = Pattern.compile("`(\\w+)`");

    private final List<String> lines;
    private final Path room;

    private ReadmeTest(List<String> lines, Path room) {
        this.lines = lines;
        this.room = room;
    }

    private static void fits(String what, boolean is) {
        Due.is("README.md: " + what, is ? 1 : 0, 1);
    }

    /** The lines of all fenced blocks of one language. */
    private List<String> blocks(String language) {
        List<String> found = new ArrayList<>();
        boolean inside = false;
        for (String line : lines) {
            if (line.startsWith("```")) {
                inside = !inside && line.equals("```" + language);
            } else if (inside) {
                found.add(line);
            }
        }
        return found;
    }

    // ---- the example

    private void example() throws IOException, ReflectiveOperationException {
        List<String> calls = new ArrayList<>();
        List<Long> due = new ArrayList<>();
        StringBuilder body = new StringBuilder();
        int fed = 0;
        for (String line : blocks("java")) {
            Matcher m = ANSWERED.matcher(line);
            if (m.matches()) {
                String name = m.group(2);
                body.append(name == null ? "" : m.group(1) + " " + name + " = " + m.group(3) + ";\n");
                body.append("got[").append(due.size()).append("] = ").append(name == null ? m.group(3) : name);
                body.append(";\n");
                calls.add(m.group(3));
                due.add(Long.parseLong(m.group(4)));
            } else {
                boolean feeds = line.trim().equals("x.feed(letter);");
                fed += feeds ? 1 : 0;
                fits("a call with its answer: " + line, feeds || !CALLED.matcher(line).find());
                body.append(line).append('\n');
            }
        }
        fits("it shows calls and their answers", due.size() >= 30 && fed >= 1);
        long[] got = run(body.toString(), due.size());
        for (int i = 0; i < got.length; i++) {
            Due.is("README.md: " + calls.get(i), got[i], due.get(i));
        }
    }

    private long[] run(String body, int n) throws IOException, ReflectiveOperationException {
        Path made = Files.createDirectory(room.resolve("example"));
        Path source = made.resolve("ReadmeExample.java");
        Files.write(source, ("public final class ReadmeExample {\npublic static long[] answers() {\nlong[] got = new long["
            + n + "];\n" + body + "return got;\n}\n}\n").getBytes());
        int rc = ToolProvider.getSystemJavaCompiler().run(null, null, null,
            "-cp", System.getProperty("java.class.path"), "-d", made.toString(), source.toString());
        fits("the example compiles", rc == 0);
        if (rc != 0) {
            return new long[0];
        }
        try (URLClassLoader loader = new URLClassLoader(new URL[] {made.toUri().toURL()})) {
            return (long[]) loader.loadClass("ReadmeExample").getMethod("answers").invoke(null);
        }
    }

    // ---- the calls and the tests that it names

    private void names() throws IOException {
        Set<String> calls = new TreeSet<>();
        Set<String> tests = new TreeSet<>();
        for (String line : lines) {
            String[] cells = line.split("\\|");
            if (line.startsWith("|") && cells.length == 3) {
                for (Matcher m = NAMED.matcher(cells[2]); m.find();) {
                    fits(m.group(1) + " is named once", calls.add(m.group(1)) || !isCall(m.group(1)));
                }
                for (Matcher m = Pattern.compile("\\w+Test\\b").matcher(cells[1]); m.find();) {
                    tests.add(m.group());
                }
            }
        }
        calls.removeIf(name -> !isCall(name));
        Set<String> face = new TreeSet<>();
        for (Method m : SundayIsAPlace.class.getDeclaredMethods()) {
            if (Modifier.isPublic(m.getModifiers())) {
                face.add(m.getName());
            }
        }
        fits("all calls are named: " + face + ", found " + calls, calls.equals(face));
        Set<String> there = new TreeSet<>();
        try (var files = Files.newDirectoryStream(TESTS, "*Test.java")) {
            for (Path file : files) {
                there.add(file.getFileName().toString().replace(".java", ""));
            }
        }
        fits("all tests are named: " + there + ", found " + tests, tests.equals(there));
    }

    private static boolean isCall(String name) {
        for (Method m : SundayIsAPlace.class.getDeclaredMethods()) {
            if (m.getName().equals(name) && Modifier.isPublic(m.getModifiers())) {
                return true;
            }
        }
        return false;
    }

    // ---- the commands

    /** Each command is run in a copy of the project; what stands below it is the end of what it prints. */
    private void commands() throws IOException, InterruptedException {
        Path copy = Files.createDirectory(room.resolve("copy"));
        for (String part : new String[] {"src/main/java", "src/test/java"}) {
            copyAll(Paths.get(part), Files.createDirectories(copy.resolve(part)));
        }
        List<String> block = blocks("console");
        int ran = 0;
        for (int i = 0; i < block.size(); i++) {
            if (block.get(i).startsWith("$ ")) {
                List<String> shown = new ArrayList<>();
                for (int k = i + 1; k < block.size() && !block.get(k).startsWith("$ "); k++) {
                    shown.add(block.get(k));
                }
                ran++;
                command(copy, block.get(i).substring(2), shown);
            }
        }
        fits("it shows commands", ran >= 2 && block.contains("$ " + RUN));
    }

    private void command(Path copy, String command, List<String> shown) throws IOException, InterruptedException {
        if (command.equals(RUN)) {
            return; // what it does is asked in likenesses of the project, as here it is running already
        }
        Path out = room.resolve("printed");
        Process p = new ProcessBuilder("sh", "-c", command).directory(copy.toFile())
            .redirectErrorStream(true).redirectOutput(out.toFile()).start();
        Due.is("README.md: " + command, p.waitFor(), 0);
        List<String> printed = Files.readAllLines(out);
        int from = Math.max(0, printed.size() - shown.size());
        fits(command + " prints " + shown + ", not " + printed, printed.subList(from, printed.size()).equals(shown));
    }

    private static void copyAll(Path from, Path to) throws IOException {
        try (var files = Files.newDirectoryStream(from)) {
            for (Path file : files) {
                Files.copy(file, to.resolve(file.getFileName()));
            }
        }
    }

    // ---- what .ci/run does, in small likenesses of the project

    private static final String CLASS = "public final class SundayIsAPlace { public int one() { return 1; } }";

    private static String test(String name, int due) {
        return "public final class " + name + " { public static void main(String[] a) { "
            + "if (new SundayIsAPlace().one() != " + due + ") { System.exit(1); } } }";
    }

    /** One running .ci/run, in a project of one class, one test, and what is put under shared/tests. */
    private final class Likeness {
        final Path at;
        final Path printed;
        Process process;

        Likeness(String name, String program, int testDue) throws IOException {
            at = Files.createDirectory(room.resolve(name));
            printed = at.resolve("printed");
            put("main/src/main/java/SundayIsAPlace.java", program);
            put("main/src/test/java/SmallTest.java", test("SmallTest", testDue));
            Files.createDirectories(at.resolve("main/.ci"));
            Files.createDirectories(at.resolve("shared/tests"));
            Files.copy(Paths.get(RUN), at.resolve("main").resolve(RUN));
        }

        Likeness put(String path, String text) throws IOException {
            Files.createDirectories(at.resolve(path).getParent());
            Files.write(at.resolve(path), text.getBytes());
            return this;
        }

        Likeness start(String from, String command) throws IOException {
            process = new ProcessBuilder("sh", "-c", command).directory(at.resolve(from).toFile())
                .redirectErrorStream(true).redirectOutput(printed.toFile()).start();
            return this;
        }

        void ends(int due, String... told) throws IOException, InterruptedException {
            Due.is(".ci/run in " + at.getFileName(), process.waitFor(), due);
            List<String> all = Files.readAllLines(printed);
            for (String line : told) {
                fits(".ci/run tells '" + line + "' in " + at.getFileName() + ", not " + all, all.contains(line));
            }
        }
    }

    private void run() throws IOException, InterruptedException {
        fits(RUN + " may be executed", Files.isExecutable(Paths.get(RUN)));
        String good = test("Runs", 1);
        String bad = test("Runs", 2);
        String runs = "shared/tests/Runs.java";
        Likeness all = new Likeness("all", CLASS, 1).put(runs, good).start("main", RUN);
        Likeness elsewhere = new Likeness("elsewhere", CLASS, 1).put(runs, good).start("shared", "../main/.ci/run");
        Likeness own = new Likeness("own", CLASS, 2).put(runs, good).start("main", RUN);
        Likeness shared = new Likeness("shared", CLASS, 1).put(runs, bad).start("main", RUN);
        Likeness deeper = new Likeness("deeper", CLASS, 1).put(runs, good)
            .put("shared/tests/more/Runs.java", bad).start("main", RUN);
        Likeness none = new Likeness("none", CLASS, 1).start("main", RUN);
        Likeness text = new Likeness("text", CLASS + "}", 1).put(runs, good).start("main", RUN);
        all.ends(0, "ok      SmallTest", "ok      shared Runs", "5 passed, 0 failed");
        elsewhere.ends(0, "ok      SmallTest", "ok      shared Runs", "5 passed, 0 failed");
        own.ends(1, "FAILED  SmallTest", "ok      shared Runs", "4 passed, 1 failed");
        shared.ends(1, "ok      SmallTest", "FAILED  shared Runs", "4 passed, 1 failed");
        deeper.ends(1, "ok      SmallTest", "ok      shared Runs", "FAILED  shared Runs");
        none.ends(1, "ok      SmallTest", "FAILED  there are tests under ../shared/tests");
        text.ends(1, "FAILED  the class compiles without a warning", "FAILED  SmallTest", "FAILED  shared Runs");
    }

    private static void remove(Path path) throws IOException {
        if (Files.isDirectory(path)) {
            try (var files = Files.newDirectoryStream(path)) {
                for (Path file : files) {
                    remove(file);
                }
            }
        }
        Files.delete(path);
    }

    public static void main(String[] args) throws Exception {
        Path room = Files.createTempDirectory("readme");
        try {
            ReadmeTest test = new ReadmeTest(Files.readAllLines(README), room);
            test.example();
            test.names();
            test.commands();
            test.run();
        } finally {
            remove(room);
        }
        Due.end("ReadmeTest");
    }
}
