import java.util.Arrays;
import java.util.List;

/** Each sentence of the document that names a boundary of promises 31 and 32, and of PLANS and SHEETS (==== 4.). */
public final class EdgesOfPlansTest {
    private static final Check CHECK = new Check("EdgesOfPlansTest");
    private static final String T = "atlas: rule 7 from 3 3 to 4 4;" + Texts.TETRAHEDRON + " = 0";
    private static final String BLANKS = "feed 0x20202020 0x0a0a0a0a 0x20202020 0x20202020 0x20202020";
    // some ACTS, an image, something NOTED, a PLAN ahead
    private static final String[] BEGUN = {T, "paint 0 0 = 1", "paint 1 1 = 2", "image", "wash 1 = 1", "tune 0 8 = 7",
        "note 0 30 = 1", "plan: sheet; = 1"};

    private static void run(String sentence, String... rows) {
        Script.run(CHECK, sentence, rows);
    }

    private static String[] and(String[] rows, String... more) {
        String[] all = Arrays.copyOf(rows, rows.length + more.length);
        System.arraycopy(more, 0, all, rows.length, more.length);
        return all;
    }

    /** A plan on the map of T: its steps, and what is told of it, the first SHEET being 0. */
    private static void plan(String sentence, String text, int steps, int broke, int painted, int most, int off) {
        run(sentence, T, "plan: " + text + " = " + steps, "planned 0 = " + broke, "planned 1 = " + painted,
            "planned 2 = " + most, "planned 3 = " + off, "count 9 = 0", "count 10 = 0", "count 13 = 0", "count 3 = 0",
            "count 11 = 0", "count 14 = 0", "count 15 = 0", "count 16 = 0");
    }

    private static void taking() {
        run("a text of no bytes", T, "plan 0 = 0", "planned 0 = -1", "planned 1 = 0", "planned 2 = 1", "planned 3 = 0");
        run("a text of no bytes, of a tape that has some", T, "tape: ? = 20", "plan 0 = 0", "planned 0 = -1", "count 13 = 0");
        run("the first n bytes: the rest is gone", T, "tape: paint 0 0;paint 1 1; = 20", "plan 10 = 1", "planned 0 = -1",
            "count 13 = 0", "plan 0 = 0", "planned 1 = 0");
        run("the first n bytes, n less by one", T, "tape: paint 0 0;paint 1 1; = 20", "plan 9 = 0", "planned 0 = 9");
        run("the first n bytes, n more by one", T, "tape: paint 0 0;paint 1 1; = 20", "plan 11 = 1", "planned 0 = 10");
        run("all the tape has", T, "tape: paint 0 0;paint 1 1; = 20", "plan 20 = 2", "planned 0 = -1");
        String[] tape = and(BEGUN, "tape: paint 3 3; = 20");
        for (String n : new String[] {"21", "700", "-1", "0x80000000", "0x7fffffff"}) {
            Script.changes(CHECK, "IllegalArgumentException: nothing changes", tape, "plan " + n + " = Illegal");
        }
        Script.changes(CHECK, "an empty tape has not one", BEGUN, "plan 1 = Illegal");
        run("IllegalArgumentException: nothing changes", and(tape, "plan 21 = Illegal", "plan -1 = Illegal", "count 8 = 2",
            "planned 2 = 2", "plan 10 = 1", "planned 1 = 2", "count 8 = 3"));
        String[] full = new String[36];
        Arrays.fill(full, BLANKS);
        full[0] = T;
        run("a full tape", and(full, "count 13 = 700", "plan 701 = Illegal", "count 13 = 700", "plan 700 = 0", "planned 0 = -1",
            "count 13 = 0", "plan 1 = Illegal"));
        run("a TEXT of 700 bytes", T, "plan: " + "sheet;off;".repeat(70) + " = 140", "planned 0 = -1", "planned 2 = 2",
            "count 8 = 71");
        run("a TEXT of 700 bytes that ends too soon", T, "plan: " + "sheet;off;".repeat(69) + "sheet;wash = 139",
            "planned 0 = 700");
        run("a PLAN is told by its own words alone", T, "plan: piece 5; = 0", "planned 0 = 0", "plan: spot 1 2 3; = 0",
            "planned 0 = 0", "count 0 = 0", "atlas: paint 0 0; = 1", "fault = 0");
        run("a PLAN leaves the place of the FAULT", "atlas: piece 5? = 1", "plan: ? = 0", "fault = 7", "count 14 = 1");
    }

    private static void told() {
        for (int what = 0; what < 4; what++) {
            run("NONE for all: there was none", "planned " + what + " = -1", T, "planned " + what + " = -1");
        }
        for (String what : new String[] {"-1", "4", "0x80000000", "0x7fffffff"}) {
            run("another what", "planned " + what + " = NoSuch", T, "plan:  = 0", "planned " + what + " = NoSuch", "planned 3 = 0");
            Script.changes(CHECK, "another what", BEGUN, "planned " + what + " = NoSuch");
        }
        run("of the latest PLAN", T, "plan: sheet;paint 0 0;? = 2", "planned 0 = 16", "planned 1 = 1", "planned 2 = 2",
            "planned 3 = 10", "plan:  = 0", "planned 0 = -1", "planned 1 = 0", "planned 2 = 1", "planned 3 = 2");
        Script.changes(CHECK, "asking changes nothing", BEGUN, "planned 3 = 10");
    }

    /** Goes through a step, token by token: each that can't stand there breaks it off. */
    private static void step(String... tokens) {
        StringBuilder before = new StringBuilder("paint 3 3; ");
        for (String token : tokens) {
            boolean isFirst = token.equals(tokens[0]);
            for (String other : "paint wash swap sheet off x pain ; 2 12345 00000 ? A -1 end".split(" ")) {
                boolean isNumber = Character.isDigit(other.charAt(0));
                boolean isGood = other.equals(token) || isNumber && Character.isDigit(token.charAt(0)) && other.length() < 5
                    || isFirst && "paint wash swap sheet off end".contains(other) && !other.equals("pain");
                if (!isGood) {
                    String text = other.equals("end") ? before.toString() : before + other + " ; sheet;";
                    plan("it breaks off at a TOKEN that can't stand there", text, 1, before.length(), 1, 1, 0);
                }
            }
            before.append(token).append(' ');
        }
    }

    private static void tokens() {
        step("paint", "0", "0", ";");
        step("wash", "0", ";");
        step("swap", "0", "0", ";");
        step("sheet", ";");
        step("off", ";");
        String text = "paint 3 3; swap 3 2 ;wash 3;sheet;\noff;";
        int[] ends = {0, 10, 21, 28, 34, 39};
        for (int n = 0; n <= text.length(); n++) {
            String cut = text.substring(0, n);
            int steps = cut.split(";", -1).length - 1;
            String word = cut.replaceAll("(?s).*?([a-z]*)\\z", "$1");
            boolean isWhole = cut.trim().isEmpty() || cut.trim().endsWith(";");
            boolean isPart = !word.isEmpty() && !List.of("paint", "swap", "wash", "sheet", "off").contains(word);
            CHECK.due("the STEPS of a text that is cut", n >= ends[steps] ? 1 : 0, 1);
            plan("a text that is cut: the text's length where it ends too soon", cut, steps,
                isPart ? n - word.length() : isWhole ? -1 : n, steps == 1 || steps == 2 ? 1 : 0, steps >= 4 ? 2 : 1, steps == 4 ? 10 : 0);
        }
        plan("a NUMBER of 5 digits too", "paint 0 00000;", 0, 8, 0, 1, 0);
        plan("a NUMBER of 5 digits too", "paint 00000 0;", 0, 6, 0, 1, 0);
        plan("a NUMBER of 5 digits too, one that would wrap round", "paint 4294967296 0;", 0, 6, 0, 1, 0);
        plan("a NUMBER of 4 digits", "paint 0003 0002;", 1, -1, 1, 1, 0);
        plan("no blanks are needed", "paint0 0;sheet;wash0;off;swap0 3;wash\n0;", 6, -1, 0, 2, 0);
        plan("any other byte alone", "paint 0 0;" + (char) 200, 1, 10, 1, 1, 0);
        plan("any other byte alone", "paint 0" + (char) 0 + "0;", 0, 7, 0, 1, 0);
    }

    private static void undoable() {
        String first = "a STEP that can't be done: its first byte, when its ';' is read";
        for (String step : new String[] {"paint 4 0;", "paint 9999 0;", "wash 4;", "wash 9999;", "swap 4 0;", "swap 9999 0;"}) {
            plan(first + ": SPOT that there isn't", "paint 3 3;\n" + step + "sheet;", 1, 11, 1, 1, 0);
        }
        for (String step : new String[] {"paint 0 4;", "paint 0 9999;", "swap 3 4;", "swap 3 9999;", "paint 0 32;"}) {
            plan(first + ": COLOUR that there isn't", "paint 3 3;\n" + step + "sheet;", 1, 11, 1, 1, 0);
        }
        for (String step : new String[] {"paint 3 2;", "paint 3 3;", "paint 0 3;", "wash 0;", "swap 0 1;", "swap 3 3;"}) {
            plan(first + ": as ACTS", "paint 3 3;\n" + step + "sheet;", 1, 11, 1, 1, 0);
        }
        plan(first + ": 'off' of the first one", "off;", 0, 0, 0, 1, 0);
        plan(first + ": 'off' of the first one", "sheet;off; off;sheet;", 2, 11, 0, 2, 0);
        plan("a TOKEN that can't stand there is ahead of its ';'", "paint 4 0 ?;", 0, 10, 0, 1, 0);
        plan("too soon is ahead of its ';'", "wash 0", 0, 6, 0, 1, 0);
        plan("the last SPOT, the last COLOUR", "paint 3 3;swap 3 0;swap 3 3;wash 3;", 4, -1, 0, 1, 0);
        run("without SPOTS", "plan: sheet;off; = 2", "planned 0 = -1", "plan: paint 0 0; = 0", "planned 0 = 0", "plan: wash 0; = 0",
            "planned 0 = 0", "plan: swap 0 0; = 0", "planned 0 = 0");
        run("it breaks off: what is behind isn't done", T, "plan: paint 0 0;paint 0 1;paint 1 1;sheet; = 1", "planned 1 = 1",
            "planned 2 = 1");
        plan("as ACTS: a CHAIN SWAPPED", "paint 0 0;paint 1 1;swap 0 1;paint 2 0;", 3, 29, 2, 1, 0);
        plan("as ACTS: WASHED and PAINTED again", "paint 0 0;wash 0;paint 1 0;paint 0 1;", 4, -1, 2, 1, 0);
        run("a STEP that can't be done is no refused call", T, "plan: wash 0; = 0", "count 15 = 0", "count 14 = 0");
    }

    private static void sheets() {
        for (int many = 0; many <= 7; many++) {
            StringBuilder off = new StringBuilder();
            for (int sheet = many; sheet >= 0; sheet--) {
                off.append(sheet);
            }
            plan("at most 8 lie, the first one counted", "sheet;".repeat(many), many, -1, 0, many + 1,
                Integer.parseInt(off.toString()));
        }
        plan("a SHEET where 8 lie", "sheet;".repeat(8), 7, 42, 0, 8, 76543210);
        plan("a SHEET where 8 lie", "sheet;".repeat(7) + "paint 0 0; sheet;wash 0;", 8, 53, 1, 8, 76543210);
        run("8 lie again, when one was taken off", T, "plan: " + "sheet;".repeat(7) + "off;sheet; = 9", "planned 0 = -1",
            "planned 2 = 8", "planned 3 = 86543210", "count 8 = 9");
        plan("what is painted on a SHEET is gone, when it is taken off", "paint 0 0;sheet;paint 1 1;wash 0;off;", 5, -1, 1, 2, 0);
        plan("what is on those below is seen on it", "paint 0 0;sheet;paint 1 0;", 2, 16, 1, 2, 10);
        plan("what is on those below is seen on it", "paint 0 0;sheet;wash 0;paint 1 0;", 4, -1, 1, 2, 10);
        plan("it is laid as all was then", "paint 0 0;sheet;swap 0 1;off;paint 1 1;", 5, -1, 2, 2, 0);
        plan("painted on the topmost SHEET at its end", "sheet;paint 0 0;sheet;paint 1 1;", 4, -1, 2, 3, 210);
        plan("the most SHEETS that lay, not those that lie", "sheet;sheet;off;off;sheet;", 5, -1, 0, 3, 30);
        run("taken off by 'off' isn't taken off at its end", T, "plan: sheet;sheet;off;sheet; = 4", "planned 3 = 310",
            "count 10 = 0", "count 8 = 4");
        run("SHEETS are numbered 0, 1 .. ever", T, "plan:  = 0", "planned 3 = 0", "plan:  = 0", "planned 3 = 1", "plan: sheet; = 1",
            "planned 3 = 32", "count 10 = 2", "count 8 = 4");
        run("the latest one taken off, by 'off', too: the first one is the last at the end", T, "plan: sheet;off; = 2",
            "planned 3 = 0", "count 10 = 0", "plan: sheet;off; = 2", "planned 3 = 2", "count 10 = 2");
        run("numbers MOD 10", T, "plan: " + "sheet;off;".repeat(8) + " = 16", "count 8 = 9", "plan: sheet;sheet; = 2",
            "planned 3 = 109", "count 10 = 9", "count 8 = 12", "plan: " + "sheet;off;".repeat(6) + " = 12", "planned 3 = 2",
            "plan: sheet;sheet;sheet; = 3", "planned 3 = 2109", "count 8 = 23");
        run("the first one taken off is the highest digit, 0 or not", T, "plan: " + "sheet;off;".repeat(8) + " = 16",
            "plan: sheet; = 1", "planned 3 = 9", "count 8 = 11", "count 10 = 9");
        run("all that lie are taken off, be the PLAN done or not", T, "plan: sheet;sheet;? = 2", "count 9 = 0", "planned 3 = 210",
            "plan: sheet;wash 0; = 1", "count 9 = 0", "planned 3 = 43", "count 10 = 3");
        run("SHEETS laid stay by a new ATLAS, the latest off doesn't", T, "plan: sheet; = 1", T, "count 8 = 2", "count 10 = -1",
            "planned 3 = -1", "plan: sheet; = 1", "planned 3 = 32", "count 10 = 2");
        run("restore leaves PLANS as they are", T, "image", "plan: sheet; = 1", "restore = 1", "count 8 = 2", "count 10 = 0",
            "planned 3 = 10");
    }

    private static void mapStays() {
        String stays = "MAP, ACTS stay as they are";
        String[] told = {"count 8", "count 10", "planned 0", "planned 1", "planned 2", "planned 3"};
        Script.changes(CHECK, stays, BEGUN, "plan: wash 0;paint 0 3;paint 1 1;sheet;swap 1 2; = 5", told[0], told[1], told[3],
            told[5]);
        Script.changes(CHECK, stays, BEGUN, "plan: wash 0;? = 1", told[0], told[1], told[2], told[3], told[4], told[5]);
        Script.changes(CHECK, stays, BEGUN, "plan: wash 3; = 0", told[0], told[1], told[2], told[4], told[5]);
        run("a SHEET, laid over the MAP at its beginning", T, "paint 0 0 = 1", "paint 1 1 = 2", "plan:  = 0", "planned 1 = 2",
            "plan: wash 0;wash 1; = 2", "planned 1 = 0", "plan: swap 0 1;paint 2 2;paint 3 3; = 3", "planned 1 = 4", "spot 0 2 = 0",
            "count 3 = 2", "plan: paint 0 0; = 0", "planned 0 = 0", "undo = 1", "undo = 0", "undo = -1");
    }

    public static void main(String[] args) {
        taking();
        told();
        tokens();
        undoable();
        sheets();
        mapStays();
        CHECK.end();
    }
}
