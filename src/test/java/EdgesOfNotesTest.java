import java.util.ArrayList;
import java.util.Arrays;
import java.util.List;

/** Each sentence of the document that names a boundary of promises 33 to 38, and of NOTED, MEANT, YEARS and STATUS (==== 4.). */
public final class EdgesOfNotesTest {
    private static final Check CHECK = new Check("EdgesOfNotesTest");
    private static final String T = "atlas: rule 7 from 3 3 to 4 4;" + Texts.TETRAHEDRON + " = 0";
    // two tops, of degree 5, get five times rule 0 from spots of degree 4
    private static final String TOPS = "atlas: rule 7 from 4 4 to 5 5;rule 1 from 9 9 to 9 9;" + Texts.tops(5) + " = 0";
    private static final String[] FAR = {"-1", "0x80000000", "0x7fffffff"};
    private static final String[] BEGUN = {T, "paint 0 0 = 1", "paint 1 1 = 2", "image", "wash 1 = 1", "tune 0 8 = 7",
        "note 0 30 = 1", "note 3 30 = 2", "plan: sheet; = 1"};

    private static void run(String sentence, String... rows) {
        Script.run(CHECK, sentence, rows);
    }

    private static String[] and(String[] rows, String... more) {
        String[] all = Arrays.copyOf(rows, rows.length + more.length);
        System.arraycopy(more, 0, all, rows.length, more.length);
        return all;
    }

    private static void noting() {
        run("NOTED: how much is", T, "note 0 30 = 1", "note 3 -30 = 2", "note 0 30 = 3", "count 12 = 3", "count 16 = 0");
        run("-999 to 999", T, "note 0 999 = 1", "note 0 -999 = 2", "note 0 0 = 3", "note 0 1000 = -1", "note 0 -1000 = -1",
            "count 12 = 3", "count 16 = 2");
        for (String charge : new String[] {"1000", "-1000", "0x7fffffff", "0x80000000", "65536", "1001"}) {
            Script.changes(CHECK, "not -999 to 999", BEGUN, "note 1 " + charge + " = -1", "count 16");
        }
        for (int spot = 0; spot < 4; spot++) {
            run("of any SPOT", T, "note " + spot + " 30 = 1", "meant 2 = 1", "note " + spot + " 31 = 2", "meant 2 = 0");
        }
        for (String spot : new String[] {"4", "-1", "0x80000000", "0x7fffffff"}) {
            Script.changes(CHECK, "no such SPOT, ahead", BEGUN, "note " + spot + " 30 = NoSuch");
            Script.changes(CHECK, "no such SPOT, ahead", BEGUN, "note " + spot + " 1000 = NoSuch");
        }
        List<String> rows = new ArrayList<>(List.of(T));
        for (int i = 1; i <= 8; i++) {
            rows.add("note " + i % 4 + " 30 = " + i);
        }
        String[] full = rows.toArray(new String[0]);
        run("at most 8", and(full, "count 12 = 8", "note 0 30 = -1", "note 0 1000 = -1", "note 4 30 = NoSuch", "count 12 = 8",
            "count 16 = 2"));
        Script.changes(CHECK, "there are 8", full, "note 1 29 = -1", "count 16");
        run("there are 8: the 9th isn't NOTED", and(full, "meant 2 = 1", "note 0 31 = -1", "meant 2 = 1"));
        full[8] = "note 0 31 = 8";
        run("there are 8: the 8th is", and(full, "meant 2 = 0", "meant 0 = 0"));
        run("forgotten: there is room again", and(full, "forget", "count 12 = 0", "note 0 30 = 1", "meant 2 = 1", "count 16 = 0"));
        run("what is NOTED is no ACT", T, "note 0 30 = 1", "count 11 = 0", "undo = -1", "count 12 = 1");
    }

    private static void forgetting() {
        run("nothing is NOTED", "forget", "count 12 = 0", T, "forget", "forget", "count 12 = 0", "meant 2 = 1");
        run("all that is NOTED is forgotten", and(BEGUN, "note 0 31 = 3", "meant 2 = 0", "forget", "count 12 = 0", "meant 2 = 1",
            "note 0 30 = 1", "meant 2 = 1"));
        run("STATUS stays", and(BEGUN, "note 0 1000 = -1", "forget", "count 16 = 1"));
        run("the image's stays", T, "note 0 31 = 1", "image", "forget", "meant 2 = 1", "restore = 1", "count 12 = 1", "meant 2 = 0");
        // what nothing NOTED means hangs on no RULE: all other AMOUNTS of each, and without
        Script.changes(CHECK, "and nothing else", new String[] {T, "paint 0 0 = 1", "image", "note 0 30 = 1", "note 3 30 = 2"},
            "forget", "count 12", "count 12");
    }

    private static void meaning() {
        run("no RULES, nothing NOTED", "meant 0 = 0", "meant 1 = -1", "meant 2 = 1");
        run("no RULES, something NOTED", "atlas: " + Texts.TETRAHEDRON + " = 0", "note 0 30 = 1", "meant 0 = 0", "meant 1 = -1",
            "meant 2 = 1", "note 0 31 = 2", "meant 0 = 0", "meant 1 = -1", "meant 2 = 0");
        run("nothing NOTED: all AMOUNTS, another one than it has", TOPS, "meant 0 = 196", "meant 1 = 1", "meant 2 = 1", "tune 0 1 = 7",
            "meant 0 = 196", "meant 1 = 2", "tune 0 99 = 1", "meant 1 = 1", "tune 1 99 = 1", "meant 0 = 196", "meant 1 = 1");
        run("AMOUNTS 1 to 99: 1", TOPS, "note 0 15 = 1", "meant 0 = 1", "meant 1 = 1", "meant 2 = 0");
        run("AMOUNTS 1 to 99: not 0", TOPS, "note 0 10 = 1", "meant 0 = 0", "meant 1 = -1", "meant 2 = 0");
        run("AMOUNTS 1 to 99: 99", TOPS, "note 0 505 = 1", "meant 0 = 1", "meant 1 = 99", "meant 2 = 0");
        run("AMOUNTS 1 to 99: not 100", TOPS, "note 0 510 = 1", "meant 0 = 0", "meant 1 = -1", "meant 2 = 0");
        run("no AMOUNT is so much", TOPS, "note 0 46 = 1", "meant 0 = 0", "note 0 45 = 2", "meant 0 = 0", "meant 2 = 0");
        run("another one than it has", TOPS, "note 0 45 = 1", "meant 0 = 98", "meant 1 = 102",
            "meant 2 = 1", "note 0 45 = 2", "meant 0 = 98");
        run("all NOTED would be so", TOPS, "note 0 60 = 1", "meant 1 = 10", "note 1 60 = 2", "meant 1 = 10", "note 2 0 = 3",
            "meant 0 = 1", "meant 1 = 10", "note 3 1 = 4", "meant 0 = 0", "meant 1 = -1");
        run("without: all NOTED are so", TOPS, "note 0 45 = 1", "note 2 6 = 2", "meant 2 = 1", "note 2 7 = 3", "meant 2 = 0");
        run("as TUNED", TOPS, "note 0 60 = 1", "meant 0 = 1", "meant 2 = 0", "tune 0 10 = 7", "meant 0 = 98", "meant 1 = 102",
            "meant 2 = 1", "tune 0 11 = 10", "meant 0 = 1", "meant 1 = 10", "meant 2 = 0");
        String two = "atlas: rule 7 from 4 4 to 5 5;rule 2 from 5 5 to 4 4;" + Texts.tops(5) + " = 0";
        run("the first: 100 by the RULE, and AMOUNT; of two", two, "spot 0 5 = 35", "note 0 40 = 1", "meant 0 = 2", "meant 1 = 8",
            "meant 2 = 0");
        run("the first: of the second RULE alone", two, "note 0 -450 = 1", "meant 0 = 1", "meant 1 = 199", "forget", "note 0 505 = 1",
            "meant 0 = 0", "forget", "note 0 495 = 1", "meant 0 = 1", "meant 1 = 99");
        StringBuilder six = new StringBuilder();
        for (int i = 0; i < 5; i++) {
            six.append("rule 1 from 9 9 to 9 9;");
        }
        run("the last RULE's last AMOUNT", "atlas: " + six + "rule 7 from 4 4 to 5 5;" + Texts.tops(5) + " = 0", "note 0 505 = 1",
            "meant 0 = 1", "meant 1 = 599", "meant 2 = 0", "forget", "note 0 50 = 1", "meant 1 = 508", "meant 2 = 0", "forget",
            "note 0 45 = 1", "meant 0 = 490", "meant 2 = 1");
        for (String what : new String[] {"3", "-1", "0x80000000", "0x7fffffff"}) {
            run("another what", "meant " + what + " = NoSuch", TOPS, "meant " + what + " = NoSuch", "meant 2 = 1");
            Script.changes(CHECK, "another what", BEGUN, "meant " + what + " = NoSuch");
        }
        Script.changes(CHECK, "asking changes nothing", and(BEGUN, "note 0 31 = 3"), "meant 1 = -1");
    }

    // ---- years ----

    /** Years of a map without colours, each told by another program: how many, how often, COLOURS. */
    private static void years(String map, int seed, int n, int painted, int often, int colours) {
        run("YEARS by a seed", "atlas: " + map + " = 0", "years " + seed + " " + n + " 0 = " + painted,
            "years " + seed + " " + n + " 1 = " + often, "years " + seed + " " + n + " 2 = " + colours, "count 3 = 0", "count 11 = 0",
            "count 15 = 0");
    }

    private static void living() {
        String map = Texts.TETRAHEDRON;
        String twelve = Texts.ICOSAHEDRON;
        for (int seed : new int[] {0, 1, -1, Integer.MAX_VALUE, Integer.MIN_VALUE, 12345, -99}) {
            years(map, seed, 0, 0, 0, 0);
            years(twelve, seed, 0, 0, 0, 0);
        }
        years(map, 0, 1, 1, 1, 1);
        years(map, 0, 10, 0, 2, 0);
        years(map, 0, 100, 1, 32, 1);
        years(map, 1, 2, 0, 0, 0);
        years(map, 1, 3, 1, 1, 1);
        years(map, 1, 10, 3, 6, 3);
        years(map, 1, 100, 1, 43, 1);
        years(map, -1, 100, 4, 42, 4);
        years(map, Integer.MAX_VALUE, 100, 4, 42, 4);
        years(map, Integer.MIN_VALUE, 100, 1, 32, 1);
        years(map, 12345, 100, 1, 41, 1);
        years(map, -99, 100, 2, 32, 2);
        years(twelve, 0, 100, 4, 33, 3);
        years(twelve, 1, 99, 6, 39, 4);
        years(twelve, 1, 100, 5, 40, 3);
        years(twelve, -1, 100, 6, 34, 4);
        years(twelve, 12345, 2, 2, 2, 1);
        years(twelve, 12345, 100, 5, 37, 4);
        years(twelve, -99, 100, 6, 28, 4);
        // one year of a map with spot 0 painted 0; behind each seed what it draws of 3, of 4 SPOTS, of 4 COLOURS
        oneYear("0 PAINTED", 9, "0 3 3", 2, 1, 2);
        oneYear("0 PAINTED, if it may be: not FREE", 30, "0 2 0", 1, 0, 1);
        oneYear("0 PAINTED, if it may be: it is painted", 11, "0 0 3", 1, 0, 1);
        oneYear("0 PAINTED, if it may be: it is painted so", 0, "0 0 0", 1, 0, 1);
        oneYear("1 WASHED, if it may be: it had none", 10, "1 2 1", 1, 0, 1);
        oneYear("1 WASHED", 8, "1 0 2", 0, 1, 0);
        oneYear("1 WASHED, whatever COLOUR is drawn", 74, "1 0 0", 0, 1, 0);
        oneYear("2 SWAPPED, if it may be: it is unpainted", 1, "2 2 1", 1, 0, 1);
        oneYear("2 SWAPPED", 17, "2 0 1", 1, 1, 1);
        oneYear("2 SWAPPED, if it may be: it has that COLOUR", 37, "2 0 0", 1, 0, 1);
    }

    private static void oneYear(String sentence, int seed, String draws, int painted, int often, int colours) {
        run(sentence + ", of " + draws, T, "paint 0 0 = 1", "years " + seed + " 1 0 = " + painted, "years " + seed + " 1 1 = " + often,
            "years " + seed + " 1 2 = " + colours, "spot 0 2 = 0", "count 3 = 1", "count 11 = 1", "count 15 = 0");
    }

    private static void yearEdges() {
        run("without SPOTS nothing is drawn", "years 5 100 0 = 0", "years 5 100 1 = 0", "years 5 100 2 = 0", "years 0 1 0 = 0");
        run("n 0: all as it is", T, "paint 0 0 = 1", "paint 1 3 = 2", "years 5 0 0 = 2", "years 5 0 1 = 0", "years 5 0 2 = 2");
        run("n 0 to 100", T, "years 5 0 0 = 0", "years 5 100 1", "years 5 101 0 = Illegal",
            "years 5 -1 0 = Illegal", "years 5 0x7fffffff 1 = Illegal", "years 5 0x80000000 2 = Illegal");
        run("n, without SPOTS, too", "years 5 100 0 = 0", "years 5 101 0 = Illegal", "years 5 -1 0 = Illegal");
        for (String what : new String[] {"3", "-1", "0x80000000", "0x7fffffff"}) {
            run("another what", T, "years 5 5 " + what + " = NoSuch", "years 5 101 " + what + " = NoSuch",
                "years 5 -1 " + what + " = NoSuch");
            Script.changes(CHECK, "another what", BEGUN, "years 5 5 " + what + " = NoSuch");
        }
        Script.changes(CHECK, "asking changes nothing", BEGUN, "years 7 100 1");
        Script.changes(CHECK, "IllegalArgumentException: nothing changes", BEGUN, "years 7 101 1 = Illegal");
    }

    // ---- image, restore ----

    private static void imaging() {
        run("there is none", "restore = 0", T, "restore = 0", "count 15 = 0");
        Script.changes(CHECK, "there is none: nothing changes", new String[] {T, "paint 0 0 = 1", "note 0 30 = 1"}, "restore = 0");
        run("COLOURS of SPOTS are as the image again", T, "paint 0 0 = 1", "paint 3 3 = 2", "image", "wash 0 = 0", "swap 3 0 = 1",
            "paint 1 1 = 2", "restore = 1", "spot 0 2 = 0", "spot 1 2 = -1", "spot 2 2 = -1", "spot 3 2 = 3", "count 3 = 2");
        run("COLOURS: none", T, "image", "paint 0 0 = 1", "paint 3 3 = 2", "restore = 1", "count 3 = 0", "spot 0 2 = -1");
        String six = "rule 7 from 3 3 to 4 4;".repeat(6);
        run("AMOUNTS are as the image again", "atlas: " + six + " = 0", "tune 0 1 = 7", "tune 5 99 = 7", "image", "tune 0 2 = 1",
            "tune 5 98 = 99", "tune 3 3 = 7", "restore = 1", "rule 0 0 = 1", "rule 5 0 = 99", "rule 3 0 = 7", "rule 1 0 = 7");
        run("ACTS are as the image again", T, "paint 0 0 = 1", "tune 0 9 = 7", "paint 3 1 = 2", "swap 0 1 = 2", "wash 3 = 0", "image",
            "undo = 4", "undo = 3", "undo = 2", "undo = 1", "undo = 0", "paint 2 2 = 1", "wash 2 = 2", "paint 1 3 = 1", "wash 1 = 3",
            "paint 1 2 = 1", "tune 0 3 = 7", "restore = 1", "count 11 = 5", "spot 0 2 = 1", "undo = 4", "spot 3 2 = 0", "undo = 3",
            "spot 3 2 = 1", "spot 0 2 = 0", "undo = 2", "spot 3 2 = -1", "undo = 1", "rule 0 0 = 7", "undo = 0", "count 3 = 0",
            "undo = -1");
        run("ACTS: none", T, "image", "paint 0 0 = 1", "restore = 1", "count 11 = 0", "undo = -1");
        run("what is NOTED is as the image again", T, "note 0 30 = 1", "note 1 31 = 2", "image", "forget", "note 2 30 = 1",
            "note 3 30 = 2", "note 0 30 = 3", "meant 2 = 1", "restore = 1", "count 12 = 2", "meant 2 = 0");
        run("what is NOTED: SPOTS and CHARGES", TOPS, "note 0 60 = 1", "note 2 0 = 2", "image", "forget", "note 3 20 = 1", "note 1 70 = 2",
            "restore = 1", "meant 0 = 1", "meant 1 = 10");
        run("what is NOTED: none", T, "image", "note 0 31 = 1", "restore = 1", "count 12 = 0", "meant 2 = 1");
        run("in place of another one", T, "paint 0 0 = 1", "image", "paint 1 1 = 2", "image", "wash 0 = 0", "restore = 1", "spot 0 2 = 0",
            "spot 1 2 = 1", "count 11 = 2");
        run("again and again", T, "paint 0 0 = 1", "image", "wash 0 = 0", "restore = 1", "wash 0 = 0", "wash 0 = -1", "restore = 1",
            "restore = 1", "spot 0 2 = 0", "count 11 = 1", "count 15 = 1");
        run("restore is no ACT, and none is gone by it", T, "paint 0 0 = 1", "image", "restore = 1", "count 11 = 1", "undo = 0",
            "restore = 1", "count 11 = 1", "undo = 0", "spot 0 2 = -1");
        run("STATUS, the tape, what PLANS told stay", T, "image", "wash 0 = -1", "note 0 1000 = -1", "plan: sheet;sheet; = 2",
            "tape: piece 5; = 20", "restore = 1", "count 15 = 1", "count 16 = 1", "planned 3 = 210", "count 8 = 3", "count 13 = 20",
            "atlas 8 = 0", "count 0 = 1");
        run("a FAULT leaves the image", T, "paint 0 0 = 1", "image", "wash 0 = 0", "atlas: ? = 1", "restore = 1", "spot 0 2 = 0");
        run("a new ATLAS leaves none", T, "image", T, "restore = 0", "image", "restore = 1");
        Script.changes(CHECK, "restored just behind the image: nothing changes", and(BEGUN, "image"), "restore = 1");
        full();
    }

    /** An image of all that can be kept: 30 ACTS, 8 NOTED, all SPOTS painted. */
    private static void full() {
        List<String> rows = new ArrayList<>(List.of(T));
        for (int i = 0; i < 8; i++) {
            rows.add("note " + i % 4 + " " + (i == 7 ? 31 : 30) + " = " + (i + 1));
        }
        for (int i = 0; i < 26; i++) {
            rows.add("tune 0 " + (i + 8) + " = " + (i + 7));
        }
        for (int i = 0; i < 4; i++) {
            rows.add("paint " + i + " " + i + " = " + (i + 1));
        }
        rows.addAll(List.of("count 11 = 30", "image", "forget", "swap 0 1 = 2", "swap 2 3 = 2", "wash 3 = 2", "tune 0 99 = 33",
            "restore = 1", "count 12 = 8", "meant 2 = 0", "note 0 30 = -1", "count 11 = 30", "count 3 = 4"));
        for (int i = 3; i >= 0; i--) {
            rows.add("spot " + i + " 2 = " + i);
            rows.add("undo = " + (26 + i));
            rows.add("spot " + i + " 2 = -1");
        }
        for (int i = 25; i >= 0; i--) {
            rows.add("rule 0 0 = " + (i + 8));
            rows.add("undo = " + i);
        }
        rows.addAll(List.of("rule 0 0 = 7", "undo = -1", "count 12 = 8"));
        run("an image of all that can be kept", rows.toArray(new String[0]));
    }

    private static void statusAlone() {
        run("STATUS: how many calls were refused, each by itself", T, "count 14 = 0", "count 15 = 0", "count 16 = 0", "atlas: ? = 1",
            "wash 0 = -1", "wash 0 = -1", "note 0 1000 = -1", "note 0 1000 = -1", "note 0 1000 = -1", "count 14 = 1", "count 15 = 2",
            "count 16 = 3", T, "count 14 = 1", "count 15 = 2", "count 16 = 3");
        for (String what : FAR) {
            run("what is thrown isn't refused", T, "paint " + what + " 0 = NoSuch", "wash " + what + " = NoSuch",
                "swap " + what + " 0 = NoSuch", "tune " + what + " 1 = NoSuch", "note " + what + " 0 = NoSuch", "atlas 1 = Illegal",
                "plan 1 = Illegal", "chain 0 " + what + " = Illegal", "count 14 = 0", "count 15 = 0", "count 16 = 0");
        }
        run("what is NONE else isn't refused", T, "undo = -1", "restore = 0", "free 0 1 = -1", "planned 0 = -1", "meant 0 = 98",
            "plan: ? = 0", "plan: wash 0; = 0", "play 1 = 0", "chain 0 0 = 0", "count 14 = 0", "count 15 = 0", "count 16 = 0");
    }

    public static void main(String[] args) {
        noting();
        forgetting();
        meaning();
        living();
        yearEdges();
        imaging();
        statusAlone();
        CHECK.end();
    }
}
