import java.io.File;
import java.io.IOException;
import java.lang.reflect.Method;
import java.lang.reflect.Modifier;
import java.net.URL;
import java.net.URLClassLoader;
import java.nio.file.Files;
import java.nio.file.Path;
import java.nio.file.StandardCopyOption;
import java.util.ArrayList;
import java.util.List;
import java.util.TreeSet;
import java.util.concurrent.TimeUnit;
import java.util.regex.Matcher;
import java.util.regex.Pattern;
import java.util.stream.Stream;

/** What README.md says of the use of the class and of the way to run the tests. */
public final class ReadmeTest {
    private static final Path ROOT = Path.of("").toAbsolutePath();
    private static final Path SCRATCH = ROOT.resolve("build/readme");
    private static final Path CLASS = ROOT.resolve("src/main/java/HeadTables.java");
    private static final Path RUN = ROOT.resolve(".ci/run");
    private static final int SECONDS = 200;

    /** A call of the example, and its answer in the comment. */
    private static final Pattern CALL = Pattern.compile("( +)(x\\.(\\w+)\\(.*\\)); *// (-?\\d+): .*");

    private static String page = "";

    public static void main(String[] args) throws Exception {
        page = Files.readString(ROOT.resolve("README.md"));
        remove(SCRATCH);
        Files.createDirectories(SCRATCH);
        everyCallShown();
        answers();
        commandsOfUse();
        testsNamed();
        oneTestAgain();
        runPasses();
        runFails();
        Due.finish();
    }

    /** The blocks of the page that are marked by a word, one after the other. */
    private static List<String> blocks(String mark) {
        List<String> all = new ArrayList<>();
        Matcher block = Pattern.compile("```" + mark + "\n(.*?)```", Pattern.DOTALL).matcher(page);
        while (block.find()) {
            all.add(block.group(1));
        }
        return all;
    }

    private static String example() {
        List<String> all = blocks("java");
        Due.due("examples", all.size(), 1);
        return all.get(0);
    }

    private static void everyCallShown() {
        String example = example();
        for (String line : example.split("\n")) {
            boolean isCall = line.startsWith("        x.");
            Due.due("an answer told at " + line, isCall && !CALL.matcher(line).matches() ? 0 : 1, 1);
        }
        for (Method method : HeadTables.class.getDeclaredMethods()) {
            boolean shown = example.contains("x." + method.getName() + "(");
            Due.due("shown is " + method.getName(), Modifier.isPublic(method.getModifiers()) && !shown ? 0 : 1, 1);
        }
    }

    /** The example as it is written, but for a note of each answer. */
    private static void answers() throws Exception {
        List<String> calls = new ArrayList<>();
        List<Long> want = new ArrayList<>();
        StringBuilder noted = new StringBuilder();
        for (String line : example().split("\n")) {
            Matcher call = CALL.matcher(line);
            if (call.matches()) {
                calls.add(call.group(2));
                want.add(Long.parseLong(call.group(4)));
                noted.append(call.group(1)).append("ANSWERS.add((long) ").append(call.group(2)).append(");\n");
            } else {
                noted.append(line).append('\n');
            }
        }
        List<Long> got = answersOf(noted.toString());
        Due.due("calls", got.size(), want.size());
        for (int i = 0; i < want.size() && i < got.size(); i++) {
            Due.due(calls.get(i), got.get(i), want.get(i));
        }
    }

    private static List<Long> answersOf(String program) throws Exception {
        String list = "public class Example {\n"
            + "    public static final java.util.List<Long> ANSWERS = new java.util.ArrayList<>();\n";
        Path folder = Files.createDirectories(SCRATCH.resolve("answers"));
        Path file = folder.resolve("Example.java");
        Files.writeString(file, program.replace("public class Example {\n", list));
        int exit = exitOf(ROOT, "javac", "-cp", System.getProperty("java.class.path"), "-d",
            folder.toString(), file.toString());
        Due.due("compiling the example", exit, 0);
        List<Long> got = new ArrayList<>();
        if (exit != 0) {
            return got;
        }
        try (URLClassLoader loader = new URLClassLoader(new URL[] {folder.toUri().toURL()})) {
            Class<?> example = loader.loadClass("Example");
            example.getMethod("main", String[].class).invoke(null, (Object) new String[0]);
            for (Object answer : (List<?>) example.getField("ANSWERS").get(null)) {
                got.add((Long) answer);
            }
        }
        return got;
    }

    /** The first block of commands, with the class and the example where the page says. */
    private static void commandsOfUse() throws Exception {
        Path folder = SCRATCH.resolve("use");
        copy(CLASS, folder.resolve("src/main/java/HeadTables.java"));
        write(folder.resolve("Example.java"), example());
        List<String> commands = blocks("sh");
        Due.due("blocks of commands", commands.size(), 3);
        for (String line : commands.get(0).split("\n")) {
            Due.due(line, exitOf(folder, "sh", "-c", line), 0);
        }
    }

    private static void testsNamed() throws IOException {
        TreeSet<String> named = new TreeSet<>();
        Matcher name = Pattern.compile("(?m)^- `(\\w+Test)`: ").matcher(page);
        while (name.find()) {
            named.add(name.group(1));
        }
        TreeSet<String> there = new TreeSet<>();
        try (Stream<Path> files = Files.list(ROOT.resolve("src/test/java"))) {
            files.map(file -> file.getFileName().toString()).filter(file -> file.endsWith("Test.java"))
                .forEach(file -> there.add(file.substring(0, file.length() - ".java".length())));
        }
        Due.dueText("tests that are named", named.toString(), there.toString());
    }

    /** The last block of commands; what it needs has been compiled by .ci/run. */
    private static void oneTestAgain() throws Exception {
        Due.dueText("the way to run all tests", blocks("sh").get(1).trim(), ROOT.relativize(RUN).toString());
        String line = blocks("sh").get(2).trim();
        if (Files.isDirectory(ROOT.resolve("build/test"))) {
            Due.due(line, exitOf(ROOT, "sh", "-c", line), 0);
        }
    }

    // ---- .ci/run, in a small project of its own

    private static final String PASSES = "public final class %s { public static void main(String[] args) { new HeadTables().clear(); } }";
    private static final String FAILS = "public final class %s { public static void main(String[] args) { System.exit(1); } }";
    private static final String IS_NO_JAVA = "public final class %s {";

    private static void runPasses() throws Exception {
        Path project = project("passes", PASSES, PASSES);
        Due.due("when all tests pass", exitOf(project, "./.ci/run"), 0);
        Due.due("the last words", log().endsWith("all tests passed\n") ? 1 : 0, 1);
        Due.due("from another folder", exitOf(SCRATCH, project.resolve(".ci/run").toString()), 0);
        TreeSet<String> there = new TreeSet<>();
        for (File file : project.toFile().listFiles()) {
            there.add(file.getName());
        }
        Due.dueText("what is in the project then", there.toString(), "[.ci, build, src]");
    }

    private static void runFails() throws Exception {
        dueRefused("a test of the project fails", project("own", FAILS, PASSES));
        dueRefused("a shared test fails", project("shared", PASSES, FAILS));
        dueRefused("a test of the project does not compile", project("ownwords", IS_NO_JAVA, PASSES));
        dueRefused("a shared test does not compile", project("sharedwords", PASSES, IS_NO_JAVA));
        Path noClass = project("class", PASSES, PASSES);
        write(noClass.resolve("src/main/java/HeadTables.java"), String.format(IS_NO_JAVA, "HeadTables"));
        dueRefused("the class does not compile", noClass);
        Path none = project("none", PASSES, PASSES);
        Files.delete(none.resolve("../shared/tests/AnyRuns.java"));
        dueRefused("there is no shared test", none);
    }

    private static void dueRefused(String when, Path project) throws Exception {
        Due.due("when " + when, exitOf(project, "./.ci/run"), 1);
        Due.due("words when " + when, log().contains("all tests passed") ? 1 : 0, 0);
    }

    /** A project with one test, and one shared test. */
    private static Path project(String name, String own, String shared) throws IOException {
        Path project = SCRATCH.resolve(name).resolve("main");
        copy(RUN, project.resolve(".ci/run"));
        copy(CLASS, project.resolve("src/main/java/HeadTables.java"));
        write(project.resolve("src/test/java/OneTest.java"), String.format(own, "OneTest"));
        write(project.resolve("../shared/tests/AnyRuns.java").normalize(), String.format(shared, "AnyRuns"));
        return project;
    }

    // ---- files and commands

    private static void write(Path file, String words) throws IOException {
        Files.createDirectories(file.getParent());
        Files.writeString(file, words);
    }

    private static void copy(Path from, Path to) throws IOException {
        Files.createDirectories(to.getParent());
        Files.copy(from, to, StandardCopyOption.COPY_ATTRIBUTES);
    }

    private static void remove(Path folder) throws IOException {
        if (!Files.exists(folder)) {
            return;
        }
        List<Path> all;
        try (Stream<Path> walk = Files.walk(folder)) {
            all = new ArrayList<>(walk.toList());
        }
        for (int i = all.size() - 1; i >= 0; i--) {
            Files.delete(all.get(i));
        }
    }

    private static String log() throws IOException {
        return Files.readString(SCRATCH.resolve("log"));
    }

    /** The exit code of a command; what it printed is in the log. */
    private static int exitOf(Path folder, String... command) throws Exception {
        Process process = new ProcessBuilder(command).directory(folder.toFile()).redirectErrorStream(true)
            .redirectOutput(SCRATCH.resolve("log").toFile()).start();
        if (!process.waitFor(SECONDS, TimeUnit.SECONDS)) {
            process.destroyForcibly();
            Due.due(String.join(" ", command) + " ends", 0, 1);
            return -1;
        }
        return process.exitValue();
    }
}
