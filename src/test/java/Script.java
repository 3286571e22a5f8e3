import java.util.ArrayList;
import java.util.List;

/**
 * Runs of calls told by rows, each on a new object: "paint 0 2 = 1" is a call and the answer that is due,
 * "wash 9 = NoSuch" one that throws (Illegal and Arithmetic are the others), "image" one whose answer is free.
 * "tape: TEXT = n" puts a text on the tape, "atlas: TEXT = n" and "plan: TEXT = n" take just this text from there, too.
 */
final class Script {
    // the document promises an object for so many calls alone
    private static final int MOST_CALLS = 512;

    private final MapPieces x = new MapPieces();
    private int calls = 0;

    static void run(Check check, String sentence, String... rows) {
        Script script = new Script();
        for (String row : rows) {
            script.check(check, sentence, row);
        }
        script.checkCalls(check, sentence);
    }

    /**
     * Does the rows on two new objects, and one more row on the second one: of all that both answer from then on,
     * just the rows of View that are told are unlike.
     */
    static void changes(Check check, String sentence, String[] rows, String more, String... unlike) {
        Script without = new Script();
        Script with = new Script();
        for (String row : rows) {
            without.check(check, sentence, row);
            with.check(check, sentence, row);
        }
        with.check(check, sentence, more);
        List<String> found = new ArrayList<>();
        for (String row : View.rows(without.x.count(0), without.x.count(1), without.x.count(2))) {
            if (!without.answer(row).equals(with.answer(row))) {
                found.add(row);
            }
        }
        check.same(sentence + " '" + more + "' changes", found.toString(), List.of(unlike).toString());
        with.checkCalls(check, sentence);
    }

    /** Does a row, and looks whether its answer is due. */
    private void check(Check check, String sentence, String row) {
        int at = row.lastIndexOf(" = ");
        if (at < 0) {
            answer(row);
        } else {
            String due = row.substring(at + 3);
            String got = answer(row.substring(0, at));
            check.same(sentence + " '" + row.substring(0, at) + "'", got, whole(due));
        }
    }

    private void checkCalls(Check check, String sentence) {
        check.due(sentence + ": calls above " + MOST_CALLS, Math.max(0, calls - MOST_CALLS), 0);
    }

    private static String whole(String due) {
        switch (due) {
            case "NoSuch": return Check.NO_SUCH;
            case "Illegal": return Check.ILLEGAL;
            case "Arithmetic": return Check.ARITHMETIC;
            default: return Integer.toString(number(due));
        }
    }

    private static int number(String told) {
        return told.startsWith("0x") ? Integer.parseUnsignedInt(told.substring(2), 16) : Integer.parseInt(told);
    }

    private String answer(String call) {
        int colon = call.indexOf(": ");
        if (colon >= 0) {
            String text = call.substring(colon + 2);
            String taker = call.substring(0, colon);
            int length = feed(text);
            calls++;
            return taker.equals("tape") ? Integer.toString(length) : Calls.answer(x, taker, text.length());
        }
        calls++;
        return answer(x, call);
    }

    /** The answer of a call told by its words. */
    static String answer(MapPieces x, String call) {
        String[] words = call.split(" ");
        int[] args = new int[words.length - 1];
        for (int i = 0; i < args.length; i++) {
            args[i] = number(words[i + 1]);
        }
        return Calls.answer(x, words[0], args);
    }

    private int feed(String text) {
        int length = 0;
        for (int at = 0; at < text.length(); at += 20) {
            int[] n = Calls.numbersOf(text, at);
            length = x.feed(n[0], n[1], n[2], n[3], n[4]);
            calls++;
        }
        return length;
    }
}
