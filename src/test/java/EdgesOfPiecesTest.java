/** Each sentence of the document that names a boundary of promises 6 to 14, and of PIECES and COLOURINGS (==== 2.). */
public final class EdgesOfPiecesTest {
    private static final Check CHECK = new Check("EdgesOfPiecesTest");
    // RINGS of 5, 6 and 7 PLACES, and a WHEEL
    private static final String FOUR = "atlas: piece 5;piece 5 5 5 5;piece 7;piece 7 5 5 5 5 5 5 5; = 0";
    private static final int[] COLOURINGS = {10, 31, 91, 91};
    private static final int[] PLACES = {5, 6, 7, 7};
    private static final String[] FAR = {"-1", "0x80000000", "0x7fffffff"};

    private static void run(String sentence, String... rows) {
        Script.run(CHECK, sentence, rows);
    }

    private static MapPieces four() {
        return Check.of("piece 5;piece 5 5 5 5;piece 7;piece 7 5 5 5 5 5 5 5;");
    }

    private static void noSuchPiece() {
        String[] calls = {"piece # 0", "vertex # 0", "colour # 0 0", "named # 1012", "level # 0", "extend # 0 0", "runs # 0 0 0",
            "switched # 0 0 0", "set # 0 0"};
        for (String call : calls) {
            for (String piece : FAR) {
                run("no such PIECE, as everywhere", FOUR, call.replace("#", piece) + " = NoSuch");
            }
            for (int many = 0; many <= 4; many++) {
                String text = "piece 5;".repeat(many);
                run("no such PIECE, behind the last one", "atlas: " + text + " = 0", call.replace("#", "" + many) + " = NoSuch");
                if (many > 0) {
                    String answer = Script.answer(Check.of(text), call.replace("#", "" + (many - 1)));
                    CHECK.due("the last PIECE: " + call, answer.equals(Check.NO_SUCH) ? 1 : 0, 0);
                }
            }
            run("no PIECES", call.replace("#", "0") + " = NoSuch");
        }
    }

    private static void noSuchWhat() {
        for (String what : FAR) {
            run("piece: no such what", FOUR, "piece 0 " + what + " = NoSuch");
            run("set: another what", FOUR, "set 0 " + what + " 0 = NoSuch");
            run("set: word not 0 to 2", FOUR, "set 0 0 " + what + " = NoSuch");
            run("runs: no such what", FOUR, "runs 0 0 0 " + what + " = NoSuch");
            run("runs: no such PAIRING", FOUR, "runs 0 0 " + what + " 0 = NoSuch");
            run("switched: no such PAIRING", FOUR, "switched 0 0 " + what + " 0 = NoSuch");
            run("extend: no such i", FOUR, "extend 1 0 " + what + " = NoSuch");
            run("vertex: no such VERTEX", FOUR, "vertex 1 " + what + " = NoSuch");
            run("colour: no such PLACE", FOUR, "colour 1 0 " + what + " = NoSuch");
        }
        run("piece: what 12 is the last", FOUR, "piece 0 12 = 0", "piece 0 13 = NoSuch", "piece 0 0 = 5");
        run("set: what 2 is the last", FOUR, "set 0 2 0 = 0", "set 0 3 0 = NoSuch");
        run("set: word 2 is the last", FOUR, "set 0 0 2 = 0", "set 0 0 3 = NoSuch", "set 3 0 3 = NoSuch");
        run("runs: what 1 is the last", FOUR, "runs 0 0 0 1 = 1", "runs 0 0 0 2 = NoSuch");
        run("runs: PAIRING 2 is the last", FOUR, "runs 0 2 2 0 = 4", "runs 0 2 3 0 = NoSuch");
        run("switched: PAIRING 2 is the last", FOUR, "switched 0 2 2 0 = 2", "switched 0 2 3 0 = NoSuch");
        for (int piece = 0; piece < 4; piece++) {
            MapPieces x = four();
            int at = piece;
            int vertices = x.piece(piece, 3);
            int spokes = x.piece(piece, 1);
            CHECK.due("extend: the last SPOKE", x.extend(at, 0, spokes) < 4 ? 1 : 0, 1);
            CHECK.isThrown("extend: one behind the last SPOKE", Check.NO_SUCH, () -> x.extend(at, 0, spokes + 1));
            CHECK.due("vertex: the last VERTEX", x.vertex(at, vertices - 1) != 0 ? 1 : 0, 1);
            CHECK.isThrown("vertex: one behind the last", Check.NO_SUCH, () -> x.vertex(at, vertices));
            CHECK.due("colour: the last PLACE", x.colour(at, 0, PLACES[at] - 1) > 0 ? 1 : 0, 1);
            CHECK.isThrown("colour: one behind the last PLACE", Check.NO_SUCH, () -> x.colour(at, 0, PLACES[at]));
        }
    }

    private static void noSuchColouring() {
        String[] calls = {"colour # 0", "level #", "extend # 0", "runs # 0 0", "switched # 0 0"};
        for (String call : calls) {
            String[] two = call.split(" ", 2);
            for (int piece = 0; piece < 4; piece++) {
                String told = two[0] + " " + piece + " " + two[1];
                for (String far : FAR) {
                    run("no such COLOURING, as everywhere", FOUR, told.replace("#", far) + " = NoSuch");
                }
                run("no such COLOURING, behind the last one", FOUR, told.replace("#", "" + COLOURINGS[piece]) + " = NoSuch");
                String answer = Script.answer(four(), told.replace("#", "" + (COLOURINGS[piece] - 1)));
                CHECK.due("the last COLOURING: " + told, answer.equals(Check.NO_SUCH) ? 1 : 0, 0);
            }
        }
    }

    private static void piecesTold() {
        String alone = "of a HUB alone as many PLACES as HUB says";
        run(alone, "atlas: piece 5;piece 6;piece 7; = 0", "piece 0 2 = 5", "piece 1 2 = 6", "piece 2 2 = 7", "piece 0 3 = 6",
            "piece 1 3 = 7", "piece 2 3 = 8", "piece 0 4 = 10", "piece 1 4 = 12", "piece 2 4 = 14");
        run("and edges to all", "atlas: piece 7; = 0", "vertex 0 7 = 0x7f", "vertex 0 0 = 0xc2", "vertex 0 6 = 0xa1");
        String wheel = "the last SPOKE to the first one, if there are as many as HUB says";
        run(wheel, "atlas: piece 5 5 5 5 5;piece 5 5 5 5 5 5; = 0", "piece 0 1 = 4", "piece 1 1 = 5", "piece 0 2 = 6",
            "piece 1 2 = 5", "piece 0 4 = 24", "piece 1 4 = 25");
        // the HUB at 6, SPOKES at 7 to 10; the HUB has one edge to the RING, to PLACE 0
        run("without a WHEEL the HUB has edges to the RING", "atlas: piece 5 5 5 5 5; = 0", "vertex 0 6 = 0x781",
            "vertex 0 7 = 0x147", "vertex 0 10 = 0x271", "vertex 0 0 = 0x4e2");
        // the HUB at 5, SPOKES at 6 to 10; PLACE 0 is the first one's first and the last one's last
        run("in a WHEEL it has none", "atlas: piece 5 5 5 5 5 5; = 0", "vertex 0 5 = 0x7c0", "vertex 0 6 = 0x4a3",
            "vertex 0 10 = 0x271", "vertex 0 0 = 0x452");
        // one SPOKE, at 7, with 4 edges to the RING; the HUB, at 6, with 4, the last one to PLACE 0
        run("one SPOKE: no edge to one behind it", "atlas: piece 5 5; = 0", "vertex 0 7 = 0x4f", "vertex 0 6 = 0xb9",
            "vertex 0 0 = 0xe2", "vertex 0 3 = 0xd4");
        run("the most VERTICES", "atlas: piece 7 5 5 5 5 5 5 5; = 0", "piece 0 3 = 15", "vertex 0 14 = 0x21c1",
            "vertex 0 7 = 0x7f00");
    }

    private static void joinsTold() {
        run("C: without JOINS", "atlas: piece 5 5 5 5; = 0", "piece 0 10 = 0", "piece 0 11 = 0", "piece 0 12 = 0", "piece 0 9 = 1",
            "set 0 2 0 = 0");
        run("C: JOINS, but none is JOINED", "atlas: piece 5 5 5 5;join 7 0;join 7 1; = 0", "piece 0 10 = 2", "piece 0 11 = 0",
            "piece 0 12 = 0", "piece 0 9 = 1", "set 0 2 0 = 0");
        run("C: JOINED, but one of these is BAD", "atlas: piece 5;join 0 5;join 2 5; = 0", "piece 0 10 = 2", "piece 0 11 = 3",
            "piece 0 12 = 0", "set 0 2 0 = 7", "set 0 1 0 = 932");
        run("C: at least one is JOINED, none of these is BAD", "atlas: piece 5 5 5 5;join 6 8; = 0", "piece 0 10 = 1",
            "piece 0 12 = 1");
        // the HUB has PLACE 0's COLOUR 0, so none of the others may: 0 1 2 1 2, 0 1 2 1 3, 0 1 2 3 1, 0 1 2 3 2
        run("both ends of a JOIN alike, of each other edge unlike", "atlas: piece 5;join 0 5; = 0", "piece 0 11 = 4",
            "set 0 2 0 = 0x3c0");
        run("JOINS are told either way", "atlas: piece 5;join 5 0; = 0", "piece 0 11 = 4", "set 0 2 0 = 0x3c0");
        run("LEVELS hang on no JOINS", "atlas: piece 5;join 0 5; = 0", "piece 0 6 = 5", "set 0 0 0 = 91", "extend 0 0 0 = 3",
            "level 0 6 = 0", "extend 0 6 0 = 3");
        run("REDUCIBLE: D without C", "atlas: piece 5 5 5 5;" + Texts.ICOSAHEDRON + " = 0", "piece 0 9 = 1", "piece 0 12 = 0",
            "count 7 = 0", "cases 5 2 = 6");
        run("REDUCIBLE: neither", "atlas: piece 5 5 5;" + Texts.ICOSAHEDRON + " = 0", "piece 0 9 = 0", "piece 0 12 = 0",
            "count 7 = 4095", "cases 5 2 = 0");
        run("REDUCIBLE: neither, though some are JOINED", "atlas: piece 5;join 0 5;" + Texts.ICOSAHEDRON + " = 0",
            "piece 0 9 = 0", "piece 0 12 = 0", "count 7 = 4095");
    }

    private static void colourings() {
        String all = "COLOURINGS are all of them, the least first";
        run(all, "atlas: piece 5; = 0", "piece 0 5 = 10", "named 0 01012 = 0", "named 0 1012 = 0", "named 0 1021 = 1",
            "named 0 1023 = 2", "named 0 1201 = 3", "named 0 1202 = 4", "named 0 1203 = 5", "named 0 1212 = 6",
            "named 0 1213 = 7", "named 0 1231 = 8", "named 0 1232 = 9");
        run(all, "atlas: piece 6; = 0", "piece 0 5 = 31", "named 0 10101 = 0", "named 0 10102 = 1", "named 0 12323 = 30",
            "named 0 12321 = 29", "colour 0 30 0 = 0", "colour 0 30 1 = 1", "colour 0 30 2 = 2", "colour 0 30 3 = 3",
            "colour 0 30 4 = 2", "colour 0 30 5 = 3");
        run(all, "atlas: piece 7; = 0", "piece 0 5 = 91", "named 0 101012 = 0", "named 0 101021 = 1", "named 0 123232 = 90",
            "named 0 123231 = 89", "colour 0 0 5 = 1", "colour 0 0 6 = 2", "colour 0 90 6 = 2", "colour 0 89 6 = 1");
        run("unlike at PLACES side by side, round", "atlas: piece 7; = 0", "named 0 101010 = -1", "named 0 101102 = -1",
            "named 0 1 = -1", "named 0 1010121 = -1", "named 0 1010120 = 1");
    }

    private static void namedEdges() {
        run("0 ahead left out, one or more", "atlas: piece 5;piece 6;piece 7; = 0", "named 0 1012 = 0", "named 1 1012 = -1",
            "named 2 1012 = -1", "named 1 10101 = 0", "named 0 10101 = -1", "named 2 101012 = 0", "named 1 101012 = 1",
            "named 0 101012 = -1");
        run("any COLOURS, renamed", "atlas: piece 5;piece 7; = 0", "named 0 32321 = 0", "named 0 10102 = 0", "named 0 23230 = 0",
            "named 0 3230 = -1", "named 0 30312 = 2", "named 0 3031 = 0", "named 1 3232321 = 0", "named 1 3210101 = 90",
            "named 1 2323230 = 0");
        run("no COLOUR is 4 or more", "atlas: piece 5; = 0", "named 0 4141 = -1", "named 0 1014 = -1", "named 0 41012 = -1",
            "named 0 1092 = -1", "named 0 1013 = 0", "named 0 91012 = -1", "named 0 101 = -1");
        run("NONE: below 0", "atlas: piece 5; = 0", "named 0 -1 = -1", "named 0 -1012 = -1", "named 0 0x80000000 = -1");
        run("NONE: too many PLACES", "atlas: piece 5;piece 7; = 0", "named 0 101012 = -1", "named 0 100000 = -1",
            "named 0 0x7fffffff = -1", "named 1 10101012 = -1", "named 1 1000101012 = -1", "named 1 0x7fffffff = -1");
        run("NONE: nothing", "atlas: piece 5; = 0", "named 0 0 = -1");
    }

    private static void levels() {
        run("LEVEL: 0, it EXTENDS; NONE, BAD", "atlas: piece 5; = 0", "level 0 0 = 0", "level 0 1 = 0", "level 0 2 = -1",
            "level 0 9 = -1", "level 0 6 = 0", "piece 0 8 = 0", "piece 0 7 = 5", "piece 0 6 = 5");
        run("ROUNDS: 0 without", "atlas: piece 5 5 5 5 5 5; = 0", "piece 0 6 = 10", "piece 0 7 = 0", "piece 0 8 = 0",
            "piece 0 9 = 1", "set 0 1 0 = 0", "set 0 0 0 = 0x3ff");
        run("ROUNDS: the greatest LEVEL there is, BAD ones left", "atlas: piece 5 5; = 0", "piece 0 8 = 1", "piece 0 7 = 16",
            "piece 0 9 = 0");
        run("D: none is BAD", "atlas: piece 5 5 5 5; = 0", "piece 0 7 = 0", "piece 0 9 = 1", "piece 0 8 = 5");
        for (String text : new String[] {"piece 5 5 5 5;", "piece 5 5;", "piece 5;", "piece 5 5 6 5;", "piece 7;"}) {
            MapPieces x = Check.of(text);
            int[] found = new int[8];
            int most = 0;
            for (int i = 0; i < x.piece(0, 5); i++) {
                int level = x.level(0, i);
                found[level + 1]++;
                most = Math.max(most, level);
            }
            CHECK.due(text + " LEVEL 0 are those that EXTEND", found[1], x.piece(0, 6));
            CHECK.due(text + " LEVEL NONE are BAD", found[0], x.piece(0, 7));
            CHECK.due(text + " ROUNDS", x.piece(0, 8), most);
            for (int level = 1; level <= most; level++) {
                CHECK.due(text + " no LEVEL is left out", found[level + 1] > 0 ? 1 : 0, 1);
            }
        }
        run("EXTEND: none for it", "atlas: piece 5 5 5 5; = 0", "extend 0 0 0 = -1", "extend 0 0 1 = -1", "extend 0 0 3 = -1",
            "extend 0 0 4 = NoSuch", "level 0 0 = 1");
        run("extend: COLOURS of the RING as the COLOURING has them", "atlas: piece 7;piece 6; = 0", "extend 0 0 0 = 3",
            "extend 1 0 0 = 2", "extend 1 30 0 = -1");
    }

    private static void runsAndFences() {
        run("one RUN, all round", "atlas: piece 6; = 0", "runs 0 0 0 0 = 1", "runs 0 0 0 1 = 1", "switched 0 0 0 0 = 0",
            "switched 0 0 0 1 = 0", "switched 0 0 0 2 = Illegal");
        // 0 1 0 1 0 1 by 0 and 2, by 0 and 3
        run("as many RUNS as PLACES", "atlas: piece 6; = 0", "runs 0 0 1 0 = 6", "runs 0 0 1 1 = 5", "runs 0 0 2 0 = 6",
            "runs 0 0 2 1 = 5", "switched 0 0 1 63 = 0", "switched 0 0 1 64 = Illegal", "switched 0 0 2 63 = 0",
            "switched 0 0 2 64 = Illegal");
        // 0 1 0 2 3 by 0 and 3: PLACES 4 and 0 are one, so PLACE 1 is 1 and PLACE 3, with 2, is 3
        run("that of PLACE 0 being 0, also if it goes on round the end", "atlas: piece 5; = 0", "runs 0 2 2 0 = 4",
            "switched 0 2 2 8 = 0", "switched 0 2 2 1 = 9", "switched 0 2 2 9 = 6", "switched 0 2 2 6 = 6");
        run("two RUNS: one way of FENCES", "atlas: piece 5; = 0", "runs 0 2 0 0 = 2", "runs 0 2 0 1 = 1");
        run("four RUNS: two ways", "atlas: piece 5; = 0", "runs 0 2 1 0 = 4", "runs 0 2 1 1 = 2");
        run("six RUNS: five ways", "atlas: piece 7; = 0", "runs 0 0 1 0 = 6", "runs 0 0 1 1 = 5", "runs 0 0 2 0 = 6",
            "runs 0 0 2 1 = 5");
        for (int piece = 0; piece < 3; piece++) {
            for (int from = 0; from < COLOURINGS[piece]; from += 10) {
                MapPieces x = four();
                for (int i = from; i < Math.min(from + 10, COLOURINGS[piece]); i++) {
                    bitsOfRuns(x, piece, i);
                }
            }
        }
        run("switched: NoSuchElementException, then IllegalArgumentException", FOUR, "switched 4 0 0 -1 = NoSuch",
            "switched 0 10 0 -1 = NoSuch", "switched 0 0 3 -1 = NoSuch", "switched 0 0 -1 -1 = NoSuch",
            "switched 0 0 0 -1 = Illegal", "switched 0 0 0 0x80000000 = Illegal", "switched 0 0 0 0x7fffffff = Illegal",
            "switched 0 0 0 0x40000000 = Illegal");
    }

    private static void bitsOfRuns(MapPieces x, int piece, int colouring) {
        for (int pairing = 0; pairing < 3; pairing++) {
            int p = pairing;
            int many = x.runs(piece, colouring, pairing, 0);
            int fences = x.runs(piece, colouring, pairing, 1);
            CHECK.due("FENCES of " + many + " RUNS", fences, many <= 2 ? 1 : many == 4 ? 2 : 5);
            CHECK.due("no RUNS switched", x.switched(piece, colouring, pairing, 0), colouring);
            CHECK.due("all RUNS switched", x.switched(piece, colouring, pairing, (1 << many) - 1), colouring);
            int there = x.switched(piece, colouring, pairing, 1 << many - 1);
            CHECK.due("the last RUN switched", there >= 0 && there < COLOURINGS[piece] ? 1 : 0, 1);
            CHECK.isThrown("a RUN that there isn't", Check.ILLEGAL, () -> x.switched(piece, colouring, p, 1 << many));
            CHECK.isThrown("one that is, and one that isn't", Check.ILLEGAL,
                () -> x.switched(piece, colouring, p, 1 << many | 1));
        }
    }

    private static void sets() {
        run("32 by word and those behind", "atlas: piece 5; = 0", "set 0 0 0 = 91", "set 0 0 1 = 0", "set 0 0 2 = 0",
            "set 0 1 0 = 932", "set 0 1 1 = 0", "set 0 1 2 = 0", "set 0 2 0 = 0", "set 0 2 1 = 0", "set 0 2 2 = 0");
        for (String text : new String[] {"piece 7;join 0 7;", "piece 5 5 6;join 7 8;", "piece 7 5 5 5 5 5 5 5;join 7 8;"}) {
            MapPieces x = Check.of(text);
            for (int word = 0; word < 3; word++) {
                int[] words = {x.set(0, 0, word), x.set(0, 1, word), x.set(0, 2, word)};
                for (int bit = 0; bit < 32; bit++) {
                    int i = 32 * word + bit;
                    int level = i < 91 ? x.level(0, i) : 1;
                    CHECK.due(text + " EXTENDS, as bits: " + i, words[0] >>> bit & 1, level == 0 ? 1 : 0);
                    CHECK.due(text + " is BAD, as bits: " + i, words[1] >>> bit & 1, level == -1 ? 1 : 0);
                }
            }
            int joined = Integer.bitCount(x.set(0, 2, 0)) + Integer.bitCount(x.set(0, 2, 1)) + Integer.bitCount(x.set(0, 2, 2));
            CHECK.due(text + " JOINED, as bits", joined, x.piece(0, 11));
            CHECK.due(text + " the highest bit of a word", x.set(0, 0, 0) >>> 31, x.level(0, 31) == 0 ? 1 : 0);
            CHECK.due(text + " the last one's bit", x.set(0, 0, 2) >>> 26, x.level(0, 90) == 0 ? 1 : 0);
        }
    }

    private static void nothingChanges() {
        String[] rows = {"atlas: piece 5 5 5 5;join 6 8;piece 5; = 0"};
        String[] calls = {"piece 0 7", "piece 2 0 = NoSuch", "vertex 0 3", "vertex 0 10 = NoSuch", "colour 0 5 5", "named 0 7",
            "level 0 9", "level 0 31 = NoSuch", "extend 0 9 1", "extend 0 9 4 = NoSuch", "runs 0 3 1 0", "runs 0 3 3 0 = NoSuch",
            "switched 0 3 1 3", "switched 0 3 1 -1 = Illegal", "set 0 1 0", "set 0 1 3 = NoSuch"};
        for (String call : calls) {
            Script.changes(CHECK, "asking changes nothing", rows, call);
        }
    }

    public static void main(String[] args) {
        noSuchPiece();
        noSuchWhat();
        noSuchColouring();
        piecesTold();
        joinsTold();
        colourings();
        namedEdges();
        levels();
        runsAndFences();
        sets();
        nothingChanges();
        CHECK.end();
    }
}
