import java.io.IOException;
import java.nio.file.Files;
import java.nio.file.Path;
import java.util.stream.Stream;

/** What all tests share: a count of wrong answers, texts put on the tape, and names of exceptions. */
final class Check {
    static final String NO_SUCH = "NoSuchElementException";
    static final String ILLEGAL = "IllegalArgumentException";
    static final String ARITHMETIC = "ArithmeticException";

    interface Call {
        long answer();
    }

    private final String test;
    private int checks = 0;
    private int wrong = 0;

    Check(String test) {
        this.test = test;
    }

    void due(String what, long got, long want) {
        checks++;
        if (got != want) {
            wrong++;
            System.out.println(test + ": " + what + " answered " + got + ", due is " + want);
        }
    }

    void same(String what, String got, String want) {
        checks++;
        if (!got.equals(want)) {
            wrong++;
            System.out.println(test + ": " + what + " answered " + got + ", due is " + want);
        }
    }

    void isThrown(String what, String want, Call call) {
        same(what, thrownBy(call), want);
    }

    static String thrownBy(Call call) {
        try {
            call.answer();
            return "nothing";
        } catch (RuntimeException e) {
            return e.getClass().getSimpleName();
        }
    }

    /** Puts a text on an empty tape, with blanks behind it up to a whole feed. */
    static void feed(MapPieces pieces, String text) {
        for (int at = 0; at < text.length(); at += 20) {
            int[] n = Calls.numbersOf(text, at);
            pieces.feed(n[0], n[1], n[2], n[3], n[4]);
        }
    }

    static int atlas(MapPieces pieces, String text) {
        feed(pieces, text);
        return pieces.atlas(text.length());
    }

    static int plan(MapPieces pieces, String text) {
        feed(pieces, text);
        return pieces.plan(text.length());
    }

    static MapPieces of(String text) {
        MapPieces pieces = new MapPieces();
        int fault = atlas(pieces, text);
        if (fault != 0) {
            throw new IllegalStateException("fault " + fault + " at " + pieces.fault() + " in " + text);
        }
        return pieces;
    }

    /** Deletes a file, or a directory with all that is in it. */
    static void clear(Path path) throws IOException {
        if (Files.isDirectory(path)) {
            try (Stream<Path> inside = Files.list(path)) {
                for (Path one : inside.toList()) {
                    clear(one);
                }
            }
        }
        Files.delete(path);
    }

    void end() {
        System.out.println(test + ": " + checks + " checks, " + wrong + " wrong");
        if (wrong != 0) {
            System.exit(1);
        }
    }
}
