import java.io.IOException;
import java.lang.reflect.Method;
import java.lang.reflect.Modifier;
import java.net.URL;
import java.net.URLClassLoader;
import java.nio.file.Files;
import java.nio.file.Path;
import java.util.ArrayList;
import java.util.List;
import java.util.Set;
import java.util.TreeSet;
import java.util.regex.Matcher;
import java.util.regex.Pattern;
import javax.tools.ToolProvider;

/** What README.md shows of how to use the class compiles and answers as it says, and its commands do what .ci/run does. */
public final class ReadmeTest {
    private static final Check CHECK = new Check("ReadmeTest");
    private static final Pattern SHOWN = Pattern.compile("(pieces\\.(\\w+)\\(.*\\));\\s+// (throws \\w+|-?\\d+|true|false)\\b.*");
    private static final Pattern CALL = Pattern.compile("pieces\\.(\\w+)\\(");

    private static final List<String> README = new ArrayList<>();
    private static final Set<String> CALLED = new TreeSet<>();

    /** The blocks of one language, each as its lines. */
    private static List<List<String>> blocks(String language) {
        List<List<String>> blocks = new ArrayList<>();
        List<String> open = null;
        for (String line : README) {
            if (open == null && line.equals("```" + language)) {
                open = new ArrayList<>();
            } else if (open != null && line.equals("```")) {
                blocks.add(open);
                open = null;
            } else if (open != null) {
                open.add(line);
            }
        }
        CHECK.due("an open block of README.md", open == null ? 0 : 1, 0);
        return blocks;
    }

    /** Blocks that begin with a method stand in the class; all others, one behind the other, in one method of it. */
    private static String example() {
        StringBuilder members = new StringBuilder();
        StringBuilder statements = new StringBuilder();
        int shown = 0;
        for (List<String> block : blocks("java")) {
            boolean isMember = block.get(0).startsWith("static ");
            for (String line : block) {
                Matcher call = CALL.matcher(line);
                while (call.find()) {
                    CALLED.add(call.group(1));
                }
                Matcher matcher = SHOWN.matcher(line);
                boolean isShown = !isMember && matcher.matches();
                (isMember ? members : statements).append(isShown ? tried(matcher) : line).append('\n');
                shown += isShown ? 1 : 0;
                CHECK.due("a comment without an answer: " + line, !isShown && line.contains("//") ? 1 : 0, 0);
            }
        }
        CHECK.due("README.md shows answers", shown > 0 ? 1 : 0, 1);
        return "public final class ReadmeExample {\n" + members
            + "public static void run(java.util.List<String> rows) {\n" + statements + "}\n}\n";
    }

    private static String tried(Matcher line) {
        String quoted = line.group(1).replace("\\", "\\\\").replace("\"", "\\\"");
        return "rows.add(\"" + quoted + "\"); rows.add(\"" + line.group(3) + "\");\n"
            + "try { rows.add(String.valueOf(" + line.group(1) + ")); }\n"
            + "catch (RuntimeException e) { rows.add(\"throws \" + e.getClass().getSimpleName()); }";
    }

    private static void tryExample(Path room) throws IOException, ReflectiveOperationException {
        Path source = room.resolve("ReadmeExample.java");
        Files.writeString(source, example());
        int failed = ToolProvider.getSystemJavaCompiler().run(null, System.out, System.out,
            "-Xlint:all", "-Werror", "-cp", System.getProperty("java.class.path"), "-d", room.toString(), source.toString());
        CHECK.due("what README.md shows compiles", failed, 0);
        if (failed != 0) {
            return;
        }
        List<String> rows = new ArrayList<>();
        try (URLClassLoader loader = new URLClassLoader(new URL[] {room.toUri().toURL()})) {
            loader.loadClass("ReadmeExample").getMethod("run", List.class).invoke(null, rows);
        }
        for (int i = 0; i + 2 < rows.size(); i += 3) {
            CHECK.same("README.md: " + rows.get(i), rows.get(i + 2), rows.get(i + 1));
        }
    }

    private static void showsTheFace() {
        for (Method method : MapPieces.class.getDeclaredMethods()) {
            if (Modifier.isPublic(method.getModifiers())) {
                CHECK.due("README.md shows " + method.getName(), CALLED.contains(method.getName()) ? 1 : 0, 1);
            }
        }
    }

    /** Its commands end well, and are called as .ci/run calls them. */
    private static void tryCommands(Path room) throws IOException, InterruptedException {
        List<String> commands = new ArrayList<>();
        blocks("sh").forEach(commands::addAll);
        String script = Files.readString(Path.of(".ci/run"));
        for (String command : commands) {
            if (command.startsWith("java")) {
                String call = command.substring(0, command.indexOf("\"$"));
                CHECK.due(".ci/run calls '" + call + "'", script.contains(call) ? 1 : 0, 1);
            }
        }
        ProcessBuilder shell = new ProcessBuilder("sh", "-e", "-c", String.join("\n", commands));
        shell.environment().put("TMPDIR", room.toString());
        CHECK.due("the commands of README.md", shell.inheritIO().start().waitFor(), 0);
        CHECK.due("README.md names .ci/run", README.contains("    .ci/run") ? 1 : 0, 1);
    }

    public static void main(String[] args) throws IOException, InterruptedException, ReflectiveOperationException {
        README.addAll(Files.readAllLines(Path.of("README.md")));
        Path room = Files.createTempDirectory("readme");
        try {
            tryExample(room);
            showsTheFace();
            tryCommands(room);
        } finally {
            Check.clear(room);
        }
        CHECK.end();
    }
}
