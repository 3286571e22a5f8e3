import java.util.ArrayList;
import java.util.Arrays;
import java.util.List;

/** Each sentence of the document that names a boundary of promises 1 to 5, and of texts, TOKENS and FAULTS (==== 1.). */
public final class EdgesOfTextsTest {
    private static final Check CHECK = new Check("EdgesOfTextsTest");
    private static final String T = Texts.TETRAHEDRON;
    private static final String BLANKS = "feed 0x20202020 0x0a0a0a0a 0x20202020 0x20202020 0x20202020";

    private static void run(String sentence, String... rows) {
        Script.run(CHECK, sentence, rows);
    }

    /** The fault that a text has on a new object, or 0; of a fault, where it is. */
    private static void fault(String sentence, String text, int number, int place) {
        MapPieces x = new MapPieces();
        String shown = sentence + " '" + text + "'";
        CHECK.due(shown, Check.atlas(x, text), number);
        CHECK.due(shown + " its place", x.fault(), number == 0 ? -1 : place);
        CHECK.due(shown + " STATUS 0", x.count(14), number == 0 ? 0 : 1);
    }

    private static void good(String sentence, String... texts) {
        for (String text : texts) {
            fault(sentence, text, 0, -1);
        }
    }

    private static String[] rows(String... rows) {
        return rows;
    }

    private static String[] and(String[] rows, String... more) {
        String[] all = Arrays.copyOf(rows, rows.length + more.length);
        System.arraycopy(more, 0, all, rows.length, more.length);
        return all;
    }

    private static String[] times(int n, String row) {
        String[] all = new String[n];
        Arrays.fill(all, row);
        return all;
    }

    // ---- promise 1 ----

    private static void newObject() {
        String no = "a new object: nothing";
        for (int what = 0; what <= 16; what++) {
            run(no, "count " + what + (what == 10 ? " = -1" : " = 0"));
        }
        run(no, "fault = -1", "undo = -1", "restore = 0", "ways = 1", "play 0 = 1", "play 1 = -1", "meant 0 = 0",
            "meant 1 = -1", "meant 2 = 1", "planned 0 = -1", "planned 1 = -1", "planned 2 = -1", "planned 3 = -1",
            "years 7 100 0 = 0", "years 7 100 1 = 0", "years 7 100 2 = 0", "sends 3 9 3 9 = 0", "hub 7 5555555 0 = -10",
            "hub 7 5555555 1 = 0", "cases 7 2 = 0", "forget", "count 12 = 0");
        run(no, "piece 0 0 = NoSuch", "vertex 0 0 = NoSuch", "colour 0 0 0 = NoSuch", "named 0 1012 = NoSuch",
            "level 0 0 = NoSuch", "extend 0 0 0 = NoSuch", "runs 0 0 0 0 = NoSuch", "switched 0 0 0 0 = NoSuch",
            "set 0 0 0 = NoSuch", "spot 0 0 = NoSuch", "scaled 0 0 = NoSuch", "rule 0 0 = NoSuch", "paint 0 0 = NoSuch",
            "wash 0 = NoSuch", "swap 0 0 = NoSuch", "tune 0 1 = NoSuch", "chain 0 0 = NoSuch", "solve 0 = NoSuch",
            "free 0 0 = NoSuch", "note 0 0 = NoSuch", "count 14 = 0", "count 15 = 0", "count 16 = 0");
        run("an image of nothing", "image", "restore = 1", "restore = 1", "count 11 = 0", "count 12 = 0", "undo = -1");
    }

    // ---- promise 2 ----

    private static void feeding() {
        run("twenty bytes come: how many it has", BLANKS + " = 20", BLANKS + " = 40", "count 13 = 40");
        List<String> rows = new ArrayList<>();
        for (int i = 1; i <= 35; i++) {
            rows.add(BLANKS + " = " + 20 * i);
        }
        run("the tape may have 700", and(rows.toArray(new String[0]), "count 13 = 700", "atlas 700 = 0", "count 13 = 0"));
        String[] full = and(times(34, BLANKS), "tape: piece 5;           ; = 700");
        run("NONE, if it would have more", and(full, "feed 0x3f3f3f3f 0x3f3f3f3f 0x3f3f3f3f 0x3f3f3f3f 0x3f3f3f3f = -1",
            "feed 0 0 0 0 0 = -1", "count 13 = 700"));
        run("and none come", and(full, "feed 0x3f3f3f3f 0x3f3f3f3f 0x3f3f3f3f 0x3f3f3f3f 0x3f3f3f3f = -1", "atlas 699 = 0",
            "count 0 = 1", "count 14 = 0"));
        run("and none come, also nowhere else", and(full, "feed 0 0 0 0 0 = -1", "atlas 700 = 1", "fault = 699"));
        Script.changes(CHECK, "a refused feed changes nothing", full, "feed 0 0 0 0 0 = -1");
        run("it has room again behind a text", and(full, "feed 0 0 0 0 0 = -1", "atlas 699 = 0", BLANKS + " = 20"));
        // "piece 5;" "rule 7 from 5 6 to 7 8;" of ten numbers, none like another
        run("of each number the highest first", "feed 0x70696563 0x6520353b 0x72756c65 0x20372066 0x726f6d20 = 20",
            "feed 0x35203620 0x746f2037 0x20383b20 0x0a200a20 0x20200a0a = 40", "atlas 40 = 0", "count 0 = 1",
            "rule 0 0 = 7", "rule 0 1 = 5", "rule 0 2 = 6", "rule 0 3 = 7", "rule 0 4 = 8");
        run("bytes above 127 are bytes, too", "feed 0x20202020 0x20202020 0x2020ff20 0x20202020 0x20202020 = 20",
            "atlas 20 = 1", "fault = 10");
        run("bytes above 127 at the highest", "feed 0x80202020 0 0 0 0 = 20", "atlas 4 = 1", "fault = 0");
        run("0 is a byte, too", "feed 0x20202000 0x20202020 0 0 0 = 20", "atlas 8 = 1", "fault = 3");
    }

    // ---- promises 3 and 4 ----

    private static void taking() {
        run("a text of no bytes", "atlas 0 = 0", "fault = -1");
        run("a text of no bytes, of a tape that has some", "tape: ? = 20", "atlas 0 = 0", "fault = -1", "count 13 = 0");
        run("the first n bytes: the rest is gone", "tape: piece 5;piece 6;? = 20", "atlas 16 = 0", "count 0 = 2",
            "count 13 = 0", "atlas 0 = 0", "count 0 = 0");
        run("the first n bytes, n less by one", "tape: piece 5;piece 6;? = 20", "atlas 15 = 1", "fault = 15", "count 0 = 0");
        run("the first n bytes, n more by one", "tape: piece 5;piece 6;? = 20", "atlas 17 = 1", "fault = 16");
        run("all the tape has", "tape: piece 5; = 20", "atlas 20 = 0", "count 13 = 0");
        run("the tape has not so many", "tape: piece 5; = 20", "atlas 21 = Illegal", "count 13 = 20", "atlas 20 = 0",
            "count 0 = 1");
        run("an empty tape has not one", "atlas 1 = Illegal", "count 14 = 0", "fault = -1");
        run("n below 0", "tape: piece 5; = 20", "atlas -1 = Illegal", "atlas 0x80000000 = Illegal",
            "atlas 0x7fffffff = Illegal", "count 13 = 20", "atlas 8 = 0", "count 0 = 1");
        String[] full = times(35, BLANKS);
        run("a full tape", and(full, "atlas 701 = Illegal", "count 13 = 700", "atlas 700 = 0", "atlas 1 = Illegal"));
        run("empty then, with a FAULT, too", "tape: piece 5; = 20", "atlas 7 = 1", "count 13 = 0", "atlas 1 = Illegal",
            "tape: piece 6; = 20", "atlas 8 = 0", "piece 0 0 = 6");
    }

    private static final String RICH = "piece 5 5 5 5;join 6 8;piece 5;rule 7 from 4 4 to 5 5;rule 1 from 5 5 to 4 4 with 4 4;"
        + "spot 2 3 4 5 6;spot 6 5 4 3 2;spot 0 6 1 3;spot 0 2 1 4;spot 0 3 1 5;spot 0 4 1 6;spot 0 5 1 2;";
    // an atlas of everything, of which everything is so that it can be seen, whatever is lost of it
    private static final String[] LIVELY = {"atlas: " + RICH + " = 0", "atlas:  ? = 1", "paint 0 0 = 1", "paint 2 1 = 2",
        "tune 0 9 = 7", "note 0 50 = 1", "image", "swap 0 1 = 2", "wash 2 = 0", "note 2 6 = 2", "plan: sheet;paint 3 3; = 2",
        "wash 6 = -1", "note 0 1000 = -1"};

    private static void allStays() {
        String stays = "a FAULT: all stays";
        String[] faulty = {"? = 1", "piece 5;rule 7 from 3 3 to 4 = 1", "piece 5;piece 8; = 2", "join 0 5; = 3",
            "piece 6;join 0 6;join 0 6; = 4", "piece 5;rule 3 from 3 3 to 3 3;spot 1 2 3; = 6"};
        String[] places = {"0", "28", "14", "0", "24", "42"};
        for (int i = 0; i < faulty.length; i++) {
            Script.changes(CHECK, stays, LIVELY, "atlas: " + faulty[i], "fault", "count 14", "fault");
            run("the place of the latest FAULT", and(LIVELY, "fault = 1", "atlas: " + faulty[i], "fault = " + places[i]));
        }
        Script.changes(CHECK, "IllegalArgumentException: nothing changes", LIVELY, "atlas 1 = Illegal");
        Script.changes(CHECK, "IllegalArgumentException: nothing changes", and(LIVELY, "tape: piece 4; = 20"),
            "atlas 21 = Illegal");
        Script.changes(CHECK, "IllegalArgumentException: nothing changes", and(LIVELY, "tape: piece 4; = 20"),
            "atlas -1 = Illegal");
    }

    private static void allAnew() {
        String anew = "an ATLAS, all anew";
        run(anew, and(LIVELY, "atlas:  = 0", "count 0 = 0", "count 1 = 0", "count 2 = 0", "count 3 = 0", "count 4 = 0",
            "count 5 = 0", "count 6 = 0", "count 7 = 0", "piece 0 0 = NoSuch", "rule 0 0 = NoSuch", "spot 0 0 = NoSuch"));
        run(anew, and(LIVELY, "atlas: " + RICH + " = 0", "count 0 = 2", "count 1 = 2", "count 2 = 7", "count 3 = 0",
            "rule 0 0 = 7", "rule 1 0 = 1", "spot 0 2 = -1", "spot 2 2 = -1"));
        for (String text : rows("", RICH, T)) {
            String[] rows = and(LIVELY, "count 11 = 5", "count 12 = 2", "atlas: " + text + " = 0");
            run("ACTS are gone", and(rows, "count 11 = 0", "undo = -1"));
            run("what is NOTED is gone", and(rows, "count 12 = 0", "meant 2 = 1"));
            run("the image is gone", and(rows, "restore = 0", "count 3 = 0"));
            run("what PLANS told is gone", and(rows, "planned 0 = -1", "planned 1 = -1", "planned 2 = -1", "planned 3 = -1"));
            run("which SHEET was taken off, too", and(rows, "count 10 = -1"));
            run("STATUS stays", and(rows, "count 14 = 1", "count 15 = 1", "count 16 = 1"));
            run("how many SHEETS were laid stays", and(rows, "count 8 = 2", "plan:  = 0", "planned 3 = 2"));
            run("fault: NONE without", and(rows, "fault = -1"));
        }
        run("a FAULT, none, a FAULT", "atlas: piece 4; = 2", "fault = 6", "atlas: piece 5; = 0", "fault = -1",
            "atlas: ?? = 1", "fault = 0", "count 14 = 2");
    }

    /** What texts ahead told, whole or as far as a FAULT, can't be seen in what a later one tells. */
    private static void nothingIsLeft() {
        String[] good = {"", RICH, T, "piece 5;join 0 5;join 1 5;rule 3 from 3 3 to 4 4 both 5 6;",
            "piece 7;join 7 0;piece 5 5 5 5;join 6 0;join 6 8;join 9 5;rule 9 from 5 6 to 7 8 with 3 3;rule 1 from 3 9 to 3 9;",
            "rule 8 from 5 6 to 7 8;rule 8 from 3 3 to 3 3;spot 2 3 1;spot 2 0 3;spot 1 3 0;spot 1 0 2;piece 5 5 5 5 5 5;"};
        String[] cut = {"?", "piece 5;join 0 5;?", "piece 6 5 5 5;join 7 8;join 7 1;rule 7 from 9 9 to 9 9 both 9 9;spot 9 8 7;spot 1 0",
            "rule 7 from 9 9 to 9 9 both 9", T + "spot 0 1", "spot 1 2 3;spot 0 3 2;"};
        for (int a = 0; a < 6; a++) {
            for (int b = 0; b < 6; b++) {
                for (int c = 0; c < 6; c++) {
                    sameAsAlone(good[a], good[b], good[c]);
                    sameAsAlone(good[c], cut[a], good[b], cut[b], good[c]);
                }
            }
        }
    }

    private static void sameAsAlone(String... texts) {
        String last = texts[texts.length - 1];
        MapPieces x = new MapPieces();
        for (String text : texts) {
            Check.atlas(x, text);
            // what is found out just when it is asked for is asked for, too
            x.count(7);
            x.cases(5, 3);
        }
        CHECK.due("all anew: no FAULT of " + last, x.fault(), -1);
        MapPieces alone = Check.of(last);
        for (String row : View.rows(alone.count(0), alone.count(1), alone.count(2))) {
            if (!row.equals("count 14")) {
                CHECK.same("all anew: " + row + " of " + last, Script.answer(x, row), Script.answer(alone, row));
            }
        }
    }

    // ---- promise 5 ----

    private static void counting() {
        run("another what", and(LIVELY, "count -1 = NoSuch", "count 17 = NoSuch", "count 0x7fffffff = NoSuch",
            "count 0x80000000 = NoSuch", "count 16 = 1"));
        run("0 PIECES, none to 4", "count 0 = 0", "atlas: piece 5; = 0", "count 0 = 1",
            "atlas: piece 5;piece 5;piece 5;piece 5; = 0", "count 0 = 4");
        String rule = "rule 5 from 5 5 to 6 6;";
        run("1 RULES, none to 6", "count 1 = 0", "atlas: " + rule + " = 0", "count 1 = 1",
            "atlas: " + rule.repeat(6) + " = 0", "count 1 = 6");
        run("2 SPOTS, none to 12", "count 2 = 0", "atlas: " + T + " = 0", "count 2 = 4",
            "atlas: " + Texts.ICOSAHEDRON + " = 0", "count 2 = 12");
        run("3 painted, none to all", "atlas: " + T + " = 0", "count 3 = 0", "paint 3 3 = 1", "count 3 = 1", "paint 0 0 = 2",
            "paint 1 1 = 3", "paint 2 2 = 4", "count 3 = 4", "wash 3 = 3", "count 3 = 3");
        run("4, 5 CHARGE of all", and(LIVELY, "count 4 = 120", "count 5 = 120", "tune 0 99 = 9", "count 5 = 120"));
        run("6 POSITIVE ones, 7 OPEN ones: 0 is not positive", "atlas: rule 30 from 3 3 to 3 3;" + T + " = 0",
            "count 6 = 4", "count 7 = 15", "atlas: rule 10 from 5 5 to 5 5;" + Texts.ICOSAHEDRON + " = 0", "count 6 = 12",
            "count 7 = 4095");
        String seven = "rule 1 from 5 5 to 7 9;" + Texts.ICOSAHEDRON;
        run("7 OPEN: none that holds a REDUCIBLE PIECE", "atlas: piece 5;" + seven + " = 0", "count 7 = 4095",
            "atlas: piece 5 5 5 5;" + seven + " = 0", "count 7 = 0", "atlas: piece 6;piece 5;piece 5 5 5 5;" + seven + " = 0",
            "count 7 = 0", "atlas: piece 5 5 5 6;" + seven + " = 0", "count 7 = 4095");
        run("8 SHEETS ever, 9 that lie, 10 the latest off: none", "count 8 = 0", "count 9 = 0", "count 10 = -1");
        run("8 SHEETS ever, 9 that lie, 10 the latest off", "plan:  = 0", "count 8 = 1", "count 9 = 0", "count 10 = 0",
            "plan: sheet;sheet;off; = 3", "count 8 = 4", "count 9 = 0", "count 10 = 1");
        run("14 STATUS 0 alone", "atlas: ? = 1", "atlas: ? = 1", "count 14 = 2", "count 15 = 0", "count 16 = 0");
        run("15 STATUS 1 alone", "atlas: " + T + " = 0", "wash 0 = -1", "wash 0 = -1", "count 14 = 0", "count 15 = 2",
            "count 16 = 0");
        run("16 STATUS 2 alone", "atlas: " + T + " = 0", "note 0 -1000 = -1", "note 0 1000 = -1", "count 14 = 0",
            "count 15 = 0", "count 16 = 2");
        run("13 bytes of the tape", "count 13 = 0", "tape: piece 5;             ; = 40", "count 13 = 40", "atlas 8 = 0",
            "count 13 = 0");
    }

    // ---- ==== 1: how many there may be ----

    private static void atMost() {
        good("at most 4 PIECES", "piece 5;piece 6;piece 7;piece 5;");
        fault("the first TOKEN of the 5th 'piece'", "piece 5;piece 6;piece 7;piece 5; piece 5;", 2, 33);
        fault("the first TOKEN, whatever is behind it", "piece 5;piece 6;piece 7;piece 5; piece", 2, 33);
        String rule = "rule 5 from 5 5 to 6 6;";
        good("at most 6 RULES", rule.repeat(6));
        fault("the first TOKEN of the 7th 'rule'", rule.repeat(6) + "\n" + rule, 2, 6 * rule.length() + 1);
        good("at most 12 SPOTS", Texts.ICOSAHEDRON);
        fault("the first TOKEN of the 13th 'spot'", Texts.ICOSAHEDRON + " spot 0 1 2;", 2, Texts.ICOSAHEDRON.length() + 1);
        String joins = "piece 5;join 0 5;join 5 1;join 2 5;join 5 3;";
        good("at most 4 JOINS", joins);
        fault("the first TOKEN of the 5th 'join' of a PIECE", joins + " join 4 5;", 2, 45);
        good("of the PIECE told last", joins + joins);
        run("of the PIECE told last", "atlas: " + joins + "piece 5;join 0 5;piece 5; = 0", "piece 0 10 = 4", "piece 1 10 = 1",
            "piece 2 10 = 0");
        fault("of the PIECE told last", joins + joins + "join 4 5;", 2, 88);
        good("LINES in any order", T.substring(0, 11) + "rule 5 from 5 5 to 6 6;piece 5;" + T.substring(11, 22)
            + "join 0 5;rule 5 from 5 5 to 6 6;" + T.substring(22) + "join 1 5;piece 6;");
        String all = joins.repeat(4) + "rule 99 from 3 9 to 3 9 with 3 9;".repeat(6) + T;
        good("all at once", all);
        String long700 = all + " ".repeat(692 - all.length()) + "join 4\n5";
        fault("a TEXT of 700 bytes", long700, 2, 692);
        good("a TEXT of 700 bytes", " ".repeat(700 - all.length()) + all);
        fault("a TEXT of 700 bytes that ends too soon", " ".repeat(701 - all.length()) + all.substring(0, all.length() - 1),
            1, 700);
        fault("a TEXT of 700 bytes, the last one", all + " ".repeat(699 - all.length()) + "?", 1, 699);
    }

    // ---- TOKENS ----

    private static void tokens() {
        for (int sign = 0; sign < 256; sign++) {
            String text = "piece 5" + (char) sign + ";";
            if (sign == ' ' || sign == '\n') {
                good("blanks are 32 and 10", text);
            } else if (sign >= '0' && sign <= '9') {
                fault("digits make a longer NUMBER", text, 2, 6);
            } else if (sign == ';') {
                fault("';' ends a LINE, no other begins with it", text, 1, 8);
            } else {
                fault("any other byte, or a word, can't stand there", text, 1, 7);
            }
            if (sign >= 'a' && sign <= 'z') {
                fault("a word is the longest row of letters", "piece" + (char) sign + " 5;", 1, 0);
            } else if (sign < '0' || sign > '9') {
                fault("a word ends where its letters end", "piece" + (char) sign, 1, sign == ' ' || sign == '\n' ? 6 : 5);
            }
        }
        fault("a word is the longest row", "piecerule", 1, 0);
        fault("a word that isn't whole", "piec 5;", 1, 0);
        fault("a word of other letters, the first", "xiece 5;", 1, 0);
        fault("a word of other letters, the last", "piecx 5;", 1, 0);
        fault("blanks part words", "pie ce 5;", 1, 0);
        good("no blanks are needed", "piece5;join0 5;rule7from5 6to7 8with3 4;", "piece5\n5\n5\n5;");
        good("blanks count for nothing", " \n piece \n\n 5 \n ; \n", " ", "\n", "");
        fault("blanks part NUMBERS", "piece 55;", 2, 6);
        good("blanks part NUMBERS", "piece 5 5;");
        fault("a byte alone", "piece 5??", 1, 7);
        for (String four : rows("5", "05", "005", "0005")) {
            good("a NUMBER of 1 to 4 digits", "piece " + four + ";");
        }
        for (String five : rows("00005", "12345", "000005", "0000000000000000005", "99999999999999999999")) {
            fault("a NUMBER of 5 digits or more", "piece " + five + ";", 2, 6);
            fault("where no NUMBER can stand", "piece 5; " + five, 1, 9);
        }
        // numbers that would wrap round to 5
        fault("a NUMBER of 5 digits or more", "piece 4294967301;", 2, 6);
        fault("a NUMBER of 5 digits or more", "piece 18446744073709551621;", 2, 6);
        fault("a NUMBER of 4 digits not as told", "piece 9999;", 2, 6);
    }

    // ---- TOKENS that can't stand there ----

    private static final String START = "piece join rule spot end";

    /** Goes through a line, token by token; behind each is told what else may stand there. */
    private static void line(String ahead, String... tokensAndAllowed) {
        StringBuilder before = new StringBuilder(ahead);
        for (int i = 0; i < tokensAndAllowed.length; i += 2) {
            String token = tokensAndAllowed[i];
            List<String> allowed = Arrays.asList((tokensAndAllowed[i + 1] + " " + token).split(" "));
            boolean mayNumber = Character.isDigit(token.charAt(0)) || allowed.contains("number");
            for (String other : "piece join rule spot from to with both x piec ; 5 12345 ? A -1 end".split(" ")) {
                boolean isNumber = Character.isDigit(other.charAt(0));
                if (!allowed.contains(other) && !(isNumber && mayNumber)) {
                    String text = other.equals("end") ? before.toString() : before + other + " ;";
                    fault("a TOKEN that can't stand there, or is none", text, 1, before.length());
                }
            }
            if (mayNumber) {
                fault("one that can, but is too much", before + "12345", 2, before.length());
            }
            before.append(token).append(' ');
        }
        good("the whole line", before.toString());
    }

    private static void grammar() {
        line("", "piece", START, "5", "", "5", ";", "5", ";", "5", ";", ";", "number");
        line("piece 5; ", "join", START, "0", "", "5", "", ";", "");
        line("", "rule", START, "7", "", "from", "", "5", "", "6", "", "to", "", "7", "", "8", "", ";", "with both");
        line("", "rule", START, "7", "", "from", "", "5", "", "6", "", "to", "", "7", "", "8", "", "with", "; both", "3", "",
            "4", "", ";", "");
        line("piece 6; ", "rule", START, "7", "", "from", "", "5", "", "6", "", "to", "", "7", "", "8", "", "both", "; with",
            "3", "", "4", "", ";", "");
        line("spot 1 3 2;spot 0 2 3;spot 0 3 1; ", "spot", START, "0", "", "1", ";", "2", ";", ";", "number");
    }

    /** A text that is cut: it ends too soon, wherever it is cut. */
    private static void cutTexts() {
        String text = "piece 5 5 5 5;\njoin 6 8;rule 17 from 5 6 to 7 8 both 3 4; spot 1 2 3;spot 0 3 2;spot 0 1 3;spot 0 2 1;";
        String words = " piece join rule from to both spot ";
        for (int n = 0; n <= text.length(); n++) {
            String cut = text.substring(0, n);
            String told = cut.replace('\n', ' ').trim();
            String word = cut.replaceAll("(?s).*?([a-z]*)\\z", "$1");
            int spots = cut.split("spot[^;]*;", -1).length - 1;
            if (!word.isEmpty() && !words.contains(" " + word + " ")) {
                fault("a word that is cut", cut, 1, n - word.length());
            } else if (!told.isEmpty() && !told.endsWith(";")) {
                fault("the text's length where it ends too soon", cut, 1, n);
            } else {
                fault("the text's length, if there is no other", cut, spots == 0 || spots == 4 ? 0 : 6, n);
            }
        }
    }

    // ---- NUMBERS not as told ----

    /** Each number from 0 to 30 and some more, set in for '#': good from least to most, else fault 2 at its place. */
    private static void numbers(String sentence, String text, int least, int most) {
        int place = text.indexOf('#');
        int[] more = {99, 100, 101, 255, 256, 999, 1000, 9999};
        for (int i = 0; i < 31 + more.length; i++) {
            int n = i < 31 ? i : more[i - 31];
            String told = text.replace("#", Integer.toString(n));
            if (n >= least && n <= most) {
                good(sentence, told);
            } else {
                fault(sentence, told, 2, place);
            }
        }
    }

    private static void numbersAsTold() {
        numbers("HUB 5 to 7", "piece #;", 5, 7);
        numbers("AMOUNT 1 to 99", "rule # from 5 5 to 6 6;", 1, 99);
        numbers("LOW 3 to 9 of 'from'", "rule 1 from # 9 to 6 6;", 3, 9);
        numbers("LOW 3 to 9 of 'to'", "rule 1 from 5 5 to # 9;", 3, 9);
        numbers("LOW 3 to 9 of 'with'", "rule 1 from 5 5 to 6 6 with # 9;", 3, 9);
        numbers("LOW 3 to 9 of 'both'", "rule 1 from 5 5 to 6 6 both # 9;", 3, 9);
        for (int low = 3; low <= 9; low++) {
            numbers("HIGH LOW to 9 of 'from'", "rule 1 from " + low + " # to 6 6;", low, 9);
            numbers("HIGH LOW to 9 of 'to'", "rule 1 from 5 5 to " + low + " #;", low, 9);
            numbers("HIGH LOW to 9 of 'with'", "rule 1 from 5 5 to 6 6 with " + low + " #;", low, 9);
            numbers("HIGH LOW to 9 of 'both'", "rule 1 from 5 5 to 6 6 both " + low + " #;", low, 9);
        }
    }

    private static void spokes() {
        // a SPOKE that isn't 5 to 9 is at its own place, but a RING of more than 7 PLACES at ';'
        for (int spoke = 0; spoke < 20; spoke++) {
            fault("SPOKE 5 to 9", "piece 5 " + spoke + ";", spoke == 5 || spoke == 6 ? 0 : 2, spoke < 5 || spoke > 9 ? 8 : 9);
        }
        good("as many SPOKES as HUB says", "piece 5 5 5 5 5 5;", "piece 6 5 5 5 5 5 5;", "piece 7 5 5 5 5 5 5 5;");
        fault("the first NUMBER behind as many", "piece 5 5 5 5 5 5 5;", 2, 18);
        fault("the first NUMBER behind as many", "piece 6 5 5 5 5 5 5 5;", 2, 20);
        fault("the first NUMBER behind as many", "piece 7 5 5 5 5 5 5 5 5;", 2, 22);
        fault("the first NUMBER behind as many, whatever it is", "piece 5 5 5 5 5 5 0", 2, 18);
        fault("the first NUMBER behind as many, whatever it is", "piece 5 5 5 5 5 5 12345", 2, 18);
        fault("a TOKEN that can't stand behind as many", "piece 5 5 5 5 5 5 x", 1, 18);
        fault("too soon behind as many", "piece 7 5 5 5 5 5 5 5 ", 1, 22);
        good("a RING of 7 PLACES", "piece 7;", "piece 5 6;", "piece 6 5;", "piece 5 5 6;", "piece 6 5 5;", "piece 5 5 6 5;",
            "piece 6 5 5 5;", "piece 5 6 5 5 5;", "piece 6 5 5 5 5;", "piece 6 5 5 5 5 5;", "piece 5 5 5 5 5 7;",
            "piece 5 6 5 5 5 6;", "piece 6 6 5 5 5 5 5;", "piece 7 5 5 5 5 5 5 5;");
        fault("a RING of 8 PLACES, HUB and one SPOKE", "piece 7 5;", 2, 9);
        fault("a RING of 8 PLACES, HUB and one SPOKE", "piece 6 6;", 2, 9);
        fault("a RING of 8 PLACES, HUB and one SPOKE", "piece 5 7;", 2, 9);
        fault("a RING of 8 PLACES", "piece 5 6 6;", 2, 11);
        fault("a RING of 8 PLACES", "piece 5 5 6 6;", 2, 13);
        fault("a RING of 8 PLACES", "piece 7 5 5 5 5 5 5;", 2, 19);
        fault("a RING of 8 PLACES round a WHEEL", "piece 5 5 5 5 6 7;", 2, 17);
        fault("a RING of 8 PLACES round a WHEEL", "piece 6 5 5 5 5 6 6;", 2, 19);
        fault("a RING of 8 PLACES round a WHEEL", "piece 7 5 5 5 5 5 5 6;", 2, 21);
        fault("a RING of many PLACES", "piece 7 9 9 9 9 9 9 9;", 2, 21);
    }

    private static void joins() {
        fault("'join' without a PIECE ahead", "join 0 5;piece 5;", 3, 0);
        fault("'join' without a PIECE ahead", "rule 5 from 5 5 to 6 6;\njoin", 3, 24);
        good("a PIECE told ahead, not just ahead", "piece 5;rule 5 from 5 5 to 6 6;" + T + "join 0 5;");
        for (int vertex = 0; vertex < 12; vertex++) {
            // VERTICES 0 to 5, the HUB the last
            fault("a first VERTEX that its PIECE hasn't", "piece 5;join " + vertex + " 5;",
                vertex > 5 ? 3 : vertex == 5 ? 4 : 0, vertex > 5 ? 13 : 15);
            fault("a second VERTEX that its PIECE hasn't", "piece 5;join 5 " + vertex + ";",
                vertex > 5 ? 3 : vertex == 5 ? 4 : 0, 15);
        }
        good("the last VERTEX of the greatest PIECE", "piece 7 5 5 5 5 5 5 5;join 14 13;");
        fault("the one behind it", "piece 7 5 5 5 5 5 5 5;join 15 13;", 3, 27);
        fault("the one behind it", "piece 7 5 5 5 5 5 5 5;join 14 15;", 3, 30);
        fault("far behind it", "piece 5;join 9999 5;", 3, 13);
        fault("far behind it, a bit beyond an int's", "piece 5;join 5 32;", 3, 15);
        fault("far behind it, a bit beyond an int's", "piece 5;join 5 37;", 3, 15);
        fault("a VERTEX of 5 digits", "piece 5;join 00005 0;", 2, 13);
        fault("a VERTEX of 5 digits", "piece 5;join 0 00005;", 2, 15);
        fault("its PIECE, not another one", "piece 6;piece 5;join 6 0;", 3, 21);
        good("its PIECE, not another one", "piece 5;piece 6;join 6 0;");
        fault("both are one", "piece 5;join 5 5;", 4, 15);
        fault("both are one of the RING", "piece 5;join 0 0;", 4, 15);
        fault("have no edge", "piece 5 5;join 7 4;", 4, 17);
        fault("have no edge, SPOKES", "piece 5 5 5 5;join 7 9;", 4, 21);
        good("have an edge, SPOKES", "piece 5 5 5 5;join 7 8;", "piece 5 5 5 5;join 9 8;");
        good("have an edge, SPOKES of a WHEEL", "piece 5 5 5 5 5 5;join 6 10;");
        fault("have no edge, SPOKES of no WHEEL", "piece 5 5 5 5 5;join 7 10;", 4, 23);
        fault("both of the RING, with an edge", "piece 5;join 0 1;", 4, 15);
        fault("both of the RING, with an edge round the end", "piece 5;join 4 0;", 4, 15);
        fault("both of the RING, without", "piece 5;join 0 2;", 4, 15);
        good("one of the RING", "piece 5;join 4 5;", "piece 5;join 5 4;");
        good("none of the RING", "piece 5 5;join 6 7;");
        fault("told so ahead", "piece 5;join 0 5;join 1 5;join 0 5;", 4, 33);
        fault("told so ahead, the other way", "piece 5;join 0 5;join 1 5;join 5 0;", 4, 33);
        good("told so of another PIECE", "piece 5;join 0 5;piece 5;join 0 5;");
        fault("at the second VERTEX, whatever is behind it", "piece 5;join 0 1 2", 4, 15);
    }

    private static void neighbours() {
        for (int n = 3; n <= 9; n++) {
            good("NEIGHBOURS, 3 to 9", Texts.tops(n));
            run("NEIGHBOURS, 3 to 9", "atlas: " + Texts.tops(n) + " = 0", "spot 0 0 = " + n, "spot 1 0 = " + n, "spot 2 0 = 4");
        }
        fault("the 10th NEIGHBOUR", Texts.tops(10), 2, "spot 2 3 4 5 6 7 8 9 10 ".length());
        fault("the 10th NEIGHBOUR, though it is told ahead", "spot 1 2 3 4 5 6 7 8 9 1;", 2, 23);
        fault("the 10th NEIGHBOUR, though it is itself", "spot 1 2 3 4 5 6 7 8 9 0;", 2, 23);
        fault("the 10th NEIGHBOUR, though it is too great", "spot 1 2 3 4 5 6 7 8 9 12;", 2, 23);
        fault("';' behind 1 NEIGHBOUR", "spot 1;", 2, 6);
        fault("';' behind 2 NEIGHBOURS", "spot 1 2 ;", 2, 9);
        fault("';' behind 3", "spot 1 2 3;", 6, 11);
        fault("';' behind none can't stand there", "spot;", 1, 4);
        fault("ends behind 1 NEIGHBOUR", "spot 1", 1, 6);
        fault("ends behind 9 NEIGHBOURS", "spot 1 2 3 4 5 6 7 8 9", 1, 22);
        for (int spot = 0; spot < 14; spot++) {
            fault("SPOT 0 to 11", "spot " + spot + " 10 9;", spot > 11 ? 2 : spot == 0 || spot == 10 || spot == 9 ? 4 : 6,
                spot > 11 || spot == 0 ? 5 : spot == 10 ? 8 : spot == 9 ? 10 : 12 + spot / 10);
        }
        fault("SPOT of 5 digits", "spot 00001 2 3;", 2, 5);
        fault("a NEIGHBOUR that is the SPOT itself", "spot 1 2 0;", 4, 9);
        fault("a NEIGHBOUR that is the SPOT itself, the second", "spot 1 2 3;spot 0 3 1;", 4, 20);
        fault("a NEIGHBOUR told for it ahead", "spot 1 2 3 2;", 4, 11);
        good("a NEIGHBOUR told for another ahead", T);
    }

    private static void maps() {
        good("SPOTS that make no MAP: none make one", "piece 5;");
        fault("a NEIGHBOUR without a 'spot' of its own", "spot 1 2 3;spot 0 3 2;spot 0 1 3;", 6, 33);
        fault("a NEIGHBOUR without a 'spot' of its own, all else is right",
            T.substring(0, 11) + "spot 0 3 2;spot 0 1 3;spot 0 2 1;".replace("1", "11"), 6, 46);
        fault("a NEIGHBOUR without a 'spot' of its own, the first of each", "spot 3 1 2;spot 3 2 0;spot 3 0 1;", 6, 33);
        run("a NEIGHBOUR without a 'spot' of its own, though earlier texts had one", "atlas: " + T + " = 0", "atlas: " + T + " = 0",
            "atlas: " + T.substring(0, 33) + " = 6", "atlas: " + T.substring(0, 33) + " = 6", "count 2 = 4");
        fault("w of v isn't there", "spot 1 2 3;spot 0 3 2;spot 0 1 3;spot 0 2 4;spot 0 2 1;", 6, 55);
        fault("w of v isn't followed by u: one turned over", "spot 1 2 3;spot 0 2 3;spot 0 1 3;spot 0 2 1;", 6, 44);
        for (int turned = 0; turned < 4; turned++) {
            String[] spots = {"spot 1 2 3;", "spot 0 3 2;", "spot 0 1 3;", "spot 0 2 1;"};
            String[] over = {"spot 3 2 1;", "spot 2 3 0;", "spot 3 1 0;", "spot 1 2 0;"};
            spots[turned] = over[turned];
            fault("all turning one way", String.join("", spots), 6, 44);
        }
        good("all turning the other way", "spot 3 2 1;spot 2 3 0;spot 3 1 0;spot 1 2 0;");
        good("begun at any of them", "spot 2 3 1;spot 2 0 3;spot 1 3 0;spot 1 0 2;");
        fault("at the text's length, blanks counted", "spot 1 2 3; \n ", 6, 14);
        fault("if there is no other", "spot 1 2 3;?", 1, 11);
        fault("if there is no other", "spot 1 2 3;piece 8;", 2, 17);
        good("two maps that don't hang together", T + "spot 5 6 7;spot 4 7 6;spot 4 5 7;spot 4 6 5;");
        // a row that closes twice: 0's NEIGHBOURS 1 2 3 are right, 4 is not
        fault("the last is followed by the first", "spot 1 2 3 4;spot 0 3 2;spot 0 1 3;spot 0 2 1;spot 0 1 2;", 6, 57);
    }

    private static void firstAndLeast() {
        fault("the first along the text", "piece 4;join", 2, 6);
        fault("the first along the text", "piece 5;?piece 4;", 1, 8);
        fault("the first along the text, LINES behind aren't read", "spot 1 2 1;?", 4, 9);
        fault("at a TOKEN's first byte", "piece   \n 0012;", 2, 10);
        fault("of one TOKEN the least: 1 ahead of 2", "piece 5; 12345", 1, 9);
        fault("of one TOKEN the least: 2 ahead of 3", "piece 5;join 12345 0;", 2, 13);
        fault("of one TOKEN the least: 2 ahead of 4", "spot 1 2 3 4 5 6 7 8 9 9;", 2, 23);
        fault("of one TOKEN the least: 3 ahead of 4", "piece 5;join 6 6;", 3, 13);
        fault("too soon", "rule 5 from 5 5 to 6 6 with", 1, 27);
        fault("too soon, blanks counted", "rule 5 from 5 5 to 6 6 with \n\n", 1, 30);
    }

    public static void main(String[] args) {
        newObject();
        feeding();
        taking();
        allStays();
        allAnew();
        nothingIsLeft();
        counting();
        atMost();
        tokens();
        grammar();
        cutTexts();
        numbersAsTold();
        spokes();
        joins();
        neighbours();
        maps();
        firstAndLeast();
        CHECK.end();
    }
}
