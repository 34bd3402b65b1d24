import java.io.IOException;
import java.lang.reflect.Method;
import java.lang.reflect.Modifier;
import java.nio.file.Files;
import java.nio.file.Path;
import java.util.ArrayList;
import java.util.List;
import java.util.regex.Matcher;
import java.util.regex.Pattern;
import java.util.stream.Stream;

/** README.md says what is so: its programs compile, its calls answer, and its commands do as it says. */
public final class ReadmeTest {
    private static final Pattern BLOCK = Pattern.compile("^```(\\w+)\\n(.*?)^```$", Pattern.MULTILINE | Pattern.DOTALL);
    private static final Pattern CLASS = Pattern.compile("public final class (\\w+)");
    /** A call, and behind it what it answers. */
    private static final Pattern ANSWERED = Pattern.compile("x\\.(\\w+\\([^;]*\\)); *// (-?\\d+)( \\((\\w+)\\))?:.*");
    private static final Pattern QUOTED = Pattern.compile("`([^`]+)`");
    private static final Due due = new Due();

    private final Path root = Path.of("").toAbsolutePath();
    private final String readme = Files.readString(root.resolve("README.md"));
    private final Path copy;
    private int programs;
    private int answers;
    private int commands;

    private ReadmeTest(Path copy) throws IOException {
        this.copy = copy;
    }

    public static void main(String[] args) throws Exception {
        Path place = Files.createTempDirectory("readme");
        try {
            ReadmeTest test = new ReadmeTest(Files.createDirectory(place.resolve("main")));
            test.layOut();
            test.blocks();
            test.names();
        } finally {
            remove(place);
        }
        due.end();
    }

    /** A copy of what README.md tells of, so that its commands leave nothing behind here. */
    private void layOut() throws IOException {
        try (Stream<Path> all = Files.walk(root.resolve("src"))) {
            for (Path p : (Iterable<Path>) all::iterator) Files.copy(p, copy.resolve(root.relativize(p)));
        }
        Path shared = root.resolveSibling("shared").toRealPath();
        Files.createSymbolicLink(copy.resolveSibling("shared"), shared);
    }

    private static void remove(Path place) throws IOException {
        List<Path> all = new ArrayList<>();
        try (Stream<Path> found = Files.walk(place)) {
            found.forEach(all::add);
        }
        for (int i = all.size() - 1; i >= 0; i--) Files.delete(all.get(i));
    }

    private void blocks() throws Exception {
        Matcher block = BLOCK.matcher(readme);
        String printed = null;
        while (block.find()) {
            String text = block.group(2);
            switch (block.group(1)) {
                case "java": java(text); break;
                case "sh": printed = run(text); break;
                case "text": due.same("what README.md's commands print", text, printed); break;
                default: due.same("a block README.md's test knows", "java, sh or text", block.group(1));
            }
        }
        due.same("programs in README.md", 1, programs);
        due.other("answers in README.md", 0, answers);
        due.other("commands in README.md", 0, commands);
    }

    private void java(String text) throws Exception {
        Matcher name = CLASS.matcher(text);
        if (name.find()) {
            programs++;
            Files.writeString(copy.resolve(name.group(1) + ".java"), text);
        } else {
            answered(text);
        }
    }

    /** Lines as they stand there, but that each call is compared with what stands behind it. */
    private void answered(String text) throws Exception {
        StringBuilder program = new StringBuilder("final class Answered {\npublic static void main(String[] args) {\nDue due = new Due();\n");
        for (String line : text.split("\n")) {
            Matcher call = ANSWERED.matcher(line);
            if (!call.matches()) {
                due.same("a line without an answer: " + line, "none", line.startsWith("x.") ? "one" : "none");
                program.append(line).append('\n');
                continue;
            }
            answers++;
            program.append("due.same(\"README.md: ").append(call.group(1)).append("\", ")
                    .append(call.group(2)).append("L, x.").append(call.group(1)).append(");\n");
            if (call.group(4) == null) continue;
            program.append("due.same(\"README.md: ").append(call.group(4)).append("\", ")
                    .append(call.group(2)).append("L, PullsToTheLeft.").append(call.group(4)).append(");\n");
        }
        Files.writeString(copy.resolve("Answered.java"), program.append("due.end();\n}\n}\n"));
        run("javac -d answered -sourcepath src/main/java:src/test/java Answered.java\njava -cp answered Answered\n");
    }

    /** What the commands print, to whichever stream. */
    private String run(String lines) throws Exception {
        // That one is what runs this test.
        if (lines.equals(".ci/run\n")) {
            due.same(".ci/run can be run", "true", "" + Files.isExecutable(root.resolve(".ci/run")));
            return "";
        }
        commands++;
        Path out = copy.resolveSibling("printed");
        Process sh = new ProcessBuilder("sh", "-e", "-c", lines).directory(copy.toFile())
                .redirectErrorStream(true).redirectOutput(out.toFile()).start();
        int code = sh.waitFor();
        String printed = Files.readString(out);
        if (code != 0) System.out.println(printed);
        due.same("exit code of " + lines, 0, code);
        return printed;
    }

    /** All calls are named, and what is named lies where README.md says. */
    private void names() {
        for (Method m : PullsToTheLeft.class.getDeclaredMethods()) {
            if (!Modifier.isPublic(m.getModifiers())) continue;
            due.same("README.md names " + m.getName(), "true", "" + readme.contains("`" + m.getName() + "`"));
        }
        Matcher quoted = QUOTED.matcher(readme.replaceAll("(?s)```.*?```", ""));
        while (quoted.find()) {
            String name = quoted.group(1);
            if (name.endsWith("Test")) name = "src/test/java/" + name + ".java";
            else if (name.equals("Trip.java") || !name.contains("/") && !name.endsWith(".md")) continue;
            due.same(name + " lies there", "true", "" + Files.exists(root.resolve(name)));
        }
    }
}
