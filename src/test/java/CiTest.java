import java.io.IOException;
import java.nio.file.Files;
import java.nio.file.Path;
import java.nio.file.StandardCopyOption;
import java.util.concurrent.TimeUnit;

/** What README.md says of .ci/run, tried on small projects of its own: it passes, or fails for each of the reasons told. */
public final class CiTest {
    private static final Check CHECK = new Check("CiTest");
    private static final String GOOD = "public final class %s { public static void main(String[] a) { new MapPieces(); } }";
    private static final String BAD = "public final class %s { public static void main(String[] a) { System.exit(1); } }";
    private static final String BROKEN = "public final class %s { int }";

    private static void put(Path project, String file, String text) throws IOException {
        Path path = project.resolve(file).normalize();
        Files.createDirectories(path.getParent());
        Files.writeString(path, text);
    }

    private static void own(Path project, String name, String text) throws IOException {
        put(project, "src/test/java/" + name + ".java", String.format(text, name));
    }

    private static void shared(Path project, String name, String text) throws IOException {
        put(project, "../shared/tests/" + name + ".java", String.format(text, name));
    }

    private static Path project(Path room) throws IOException {
        Path project = room.resolve("project");
        put(project, "src/main/java/MapPieces.java", "public final class MapPieces { }");
        Files.createDirectories(project.resolve(".ci"));
        Files.copy(Path.of(".ci/run"), project.resolve(".ci/run"), StandardCopyOption.REPLACE_EXISTING);
        return project;
    }

    /** Runs it from elsewhere, as it has to find its own place. */
    private static void ends(String what, Path room, int want) throws IOException, InterruptedException {
        Process process = new ProcessBuilder("sh", "project/.ci/run").directory(room.toFile())
            .redirectErrorStream(true).redirectOutput(room.resolve("out").toFile()).start();
        boolean isOver = process.waitFor(5, TimeUnit.MINUTES);
        CHECK.due(what + ", exit code", isOver ? process.exitValue() : -1, want);
        Check.clear(room);
    }

    private static void tryOne(String what, String own, String other, String shared, int want)
            throws IOException, InterruptedException {
        Path room = Files.createTempDirectory("ci");
        Path project = project(room);
        own(project, "FirstTest", own);
        own(project, "LastTest", other);
        // no test, as its name does not end so: it helps others, and is never run
        own(project, "Helper", BAD);
        if (!shared.isEmpty()) {
            shared(project, "ARuns", shared);
            shared(project, "BRuns", GOOD);
        }
        ends(what, room, want);
    }

    public static void main(String[] args) throws IOException, InterruptedException {
        CHECK.due(".ci/run is executable", Files.isExecutable(Path.of(".ci/run")) ? 1 : 0, 1);
        tryOne("all pass", GOOD, GOOD, GOOD, 0);
        tryOne("one of the project's tests fails", BAD, GOOD, GOOD, 1);
        tryOne("the last of the project's tests fails", GOOD, BAD, GOOD, 1);
        tryOne("one of the project's tests does not compile", GOOD, BROKEN, GOOD, 1);
        tryOne("a shared test fails", GOOD, GOOD, BAD, 1);
        tryOne("a shared test does not compile", GOOD, GOOD, BROKEN, 1);
        tryOne("there is no shared test", GOOD, GOOD, "", 1);
        CHECK.end();
    }
}
