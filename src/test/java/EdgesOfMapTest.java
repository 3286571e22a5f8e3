import java.util.ArrayList;
import java.util.List;

/** Each sentence of the document that names a boundary of promises 21 to 30, and of ACTS, SOLVED, TO FREE, a GAME (==== 4.). */
public final class EdgesOfMapTest {
    private static final Check CHECK = new Check("EdgesOfMapTest");
    private static final String T = "atlas: rule 7 from 3 3 to 4 4;" + Texts.TETRAHEDRON + " = 0";
    // spots 0 and 1 over a row of four round: 2, 3, 4, 5
    private static final String O = "atlas: rule 7 from 3 3 to 4 4;" + Texts.tops(4) + " = 0";
    private static final String[] FAR = {"-1", "4", "5", "32", "0x80000000", "0x7fffffff"};

    private static void run(String sentence, String... rows) {
        Script.run(CHECK, sentence, rows);
    }

    private static String[] rows(String... rows) {
        return rows;
    }

    private static String[] and(String[] rows, String... more) {
        String[] all = java.util.Arrays.copyOf(rows, rows.length + more.length);
        System.arraycopy(more, 0, all, rows.length, more.length);
        return all;
    }

    /** Refused: NONE, one more in STATUS 1, and nothing else changes. */
    private static void refused(String sentence, String[] rows, String call) {
        Script.changes(CHECK, sentence, rows, call + " = -1", "count 15");
        run(sentence + ", once more in STATUS", and(rows, "count 15 = 0", call + " = -1", "count 15 = 1", call + " = -1",
            "count 15 = 2", "count 14 = 0", "count 16 = 0"));
    }

    /** Thrown: nothing changes, STATUS neither. */
    private static void thrown(String sentence, String[] rows, String call) {
        Script.changes(CHECK, sentence, rows, call);
    }

    // some ACTS of each kind, an image, something NOTED
    private static final String[] BEGUN = {T, "paint 0 0 = 1", "paint 1 1 = 2", "image", "paint 2 2 = 3", "tune 0 8 = 7",
        "swap 1 3 = 1", "wash 2 = 2", "note 0 30 = 1"};

    private static void painting() {
        run("PAINTED: how many are", T, "paint 0 0 = 1", "paint 3 3 = 2", "paint 1 1 = 3", "paint 2 2 = 4", "count 3 = 4",
            "count 11 = 4", "count 15 = 0");
        for (int colour = 0; colour < 4; colour++) {
            refused("it is painted", BEGUN, "paint 0 " + colour);
        }
        for (String colour : FAR) {
            refused("no such COLOUR", BEGUN, "paint 2 " + colour);
            refused("it is painted, and no such COLOUR", BEGUN, "paint 0 " + colour);
        }
        refused("not FREE", BEGUN, "paint 2 0");
        refused("not FREE", BEGUN, "paint 3 3");
        run("FREE: one that a NEIGHBOUR had", and(BEGUN, "paint 2 1 = 3", "paint 3 2 = 4"));
        run("FREE: one that no NEIGHBOUR has, though another SPOT has it", O, "paint 0 0 = 1", "paint 1 0 = 2", "paint 2 0 = -1",
            "paint 2 1 = 3", "paint 4 1 = 4");
        thrown("no such SPOT", BEGUN, "paint 4 2 = NoSuch");
        thrown("no such SPOT, ahead of no such COLOUR", BEGUN, "paint -1 4 = NoSuch");
    }

    private static void washing() {
        for (int colour = 0; colour < 4; colour++) {
            run("WASHED: the COLOUR it had", T, "paint 2 " + colour + " = 1", "wash 2 = " + colour, "spot 2 2 = -1", "count 3 = 0",
                "count 11 = 2", "wash 2 = -1", "count 11 = 2");
        }
        refused("it had none", BEGUN, "wash 3");
        refused("it has none any more", BEGUN, "wash 2");
        thrown("no such SPOT", BEGUN, "wash 4 = NoSuch");
        thrown("no such SPOT", BEGUN, "wash -1 = NoSuch");
    }

    private static void swapping() {
        run("SWAPPED: how many SPOTS the CHAIN has", T, "paint 0 0 = 1", "swap 0 3 = 1", "spot 0 2 = 3", "paint 1 1 = 2",
            "swap 1 3 = 2", "spot 0 2 = 1", "spot 1 2 = 3", "swap 1 0 = 1", "spot 1 2 = 0", "count 3 = 2", "count 11 = 5");
        run("a CHAIN of all SPOTS but two", O, "paint 2 0 = 1", "paint 3 1 = 2", "paint 4 0 = 3", "paint 5 1 = 4", "chain 2 1 = 60",
            "swap 5 0 = 4", "spot 2 2 = 1", "spot 3 2 = 0", "spot 4 2 = 1", "spot 5 2 = 0");
        run("SPOTS of both COLOURS that don't hang together", O, "paint 2 0 = 1", "paint 4 1 = 2", "chain 2 1 = 4", "swap 2 1 = 1",
            "spot 2 2 = 1", "spot 4 2 = 1");
        refused("it is unpainted", BEGUN, "swap 2 0");
        refused("it has that COLOUR", BEGUN, "swap 0 0");
        refused("it has that COLOUR", BEGUN, "swap 1 3");
        for (String colour : FAR) {
            refused("no such COLOUR", BEGUN, "swap 0 " + colour);
            refused("it is unpainted, and no such COLOUR", BEGUN, "swap 2 " + colour);
        }
        thrown("no such SPOT", BEGUN, "swap 4 0 = NoSuch");
        thrown("no such SPOT, ahead of no such COLOUR", BEGUN, "swap -1 4 = NoSuch");
    }

    private static void tuning() {
        run("TUNED: AMOUNT as it was, 1 to 99", T, "tune 0 1 = 7", "tune 0 99 = 1", "tune 0 2 = 99", "tune 0 98 = 2",
            "rule 0 0 = 98", "count 11 = 4", "count 3 = 0");
        for (String amount : rows("0", "100", "-1", "-7", "101", "0x80000000", "0x7fffffff", "263")) {
            refused("not 1 to 99", BEGUN, "tune 0 " + amount);
        }
        refused("it is so", BEGUN, "tune 0 8");
        run("it was so", and(BEGUN, "tune 0 7 = 8"));
        for (String rule : rows("1", "-1", "0x80000000", "0x7fffffff")) {
            thrown("no such RULE", BEGUN, "tune " + rule + " 5 = NoSuch");
            thrown("no such RULE, ahead of not 1 to 99", BEGUN, "tune " + rule + " 0 = NoSuch");
        }
    }

    private static void undoing() {
        run("NONE: there is none", "undo = -1", "undo = -1", "count 15 = 0");
        run("NONE: there is none any more", T, "paint 0 0 = 1", "undo = 0", "undo = -1", "count 3 = 0", "count 15 = 0");
        run("the last one first, and how many are left", and(BEGUN, "count 11 = 6", "undo = 5", "spot 2 2 = 2", "undo = 4",
            "spot 1 2 = 1", "undo = 3", "rule 0 0 = 7", "undo = 2", "spot 2 2 = -1", "undo = 1", "spot 1 2 = -1", "undo = 0",
            "spot 0 2 = -1", "undo = -1", "count 11 = 0", "count 15 = 0"));
        run("what was refused is no ACT", T, "paint 0 0 = 1", "paint 0 1 = -1", "wash 1 = -1", "swap 0 0 = -1", "tune 0 7 = -1",
            "undo = 0", "count 3 = 0");
        run("an ACT behind one UNDONE", T, "paint 0 0 = 1", "paint 1 1 = 2", "undo = 1", "paint 2 2 = 2", "undo = 1",
            "spot 2 2 = -1", "spot 1 2 = -1", "spot 0 2 = 0", "undo = 0", "spot 0 2 = -1");
        for (int acts : new int[] {29, 30, 31, 32, 60}) {
            List<String> rows = new ArrayList<>(List.of(T));
            for (int i = 0; i < acts; i++) {
                rows.add(i % 2 == 0 ? "paint 0 " + i % 4 + " = 1" : "wash 0 = " + (i - 1) % 4);
            }
            int kept = Math.min(acts, 30);
            rows.add("count 11 = " + kept);
            for (int i = acts - 1; i >= acts - kept; i--) {
                rows.add("undo = " + (i - (acts - kept)));
                rows.add("spot 0 2 = " + (i % 2 == 0 ? -1 : (i - 1) % 4));
            }
            rows.add("undo = -1");
            rows.add("count 11 = 0");
            rows.add("spot 0 2 = " + (acts % 2 == 0 || acts <= 30 ? -1 : 0));
            rows.add("count 15 = 0");
            run("at most 30 are kept, the latest ones: " + acts, rows.toArray(new String[0]));
        }
        List<String> rows = new ArrayList<>(List.of(T, "paint 3 3 = 1"));
        for (int i = 0; i < 30; i++) {
            rows.add("tune 0 " + (i + 10) + " = " + (i == 0 ? 7 : i + 9));
        }
        rows.addAll(List.of("image", "count 11 = 30", "paint 0 0 = 2", "count 11 = 30", "undo = 29", "undo = 28",
            "rule 0 0 = 38", "restore = 1", "count 11 = 30", "rule 0 0 = 39", "undo = 29", "rule 0 0 = 38"));
        for (int i = 28; i >= 0; i--) {
            rows.add("undo = " + i);
        }
        rows.addAll(List.of("undo = -1", "rule 0 0 = 7", "spot 3 2 = 3"));
        run("at most 30 are kept, of all kinds together", rows.toArray(new String[0]));
        List<String> places = new ArrayList<>(List.of(T));
        for (int i = 0; i < 34; i++) {
            places.add(i % 2 == 0 ? "paint " + i / 2 % 4 + " 0 = 1" : "wash " + i / 2 % 4 + " = 0");
        }
        for (int i = 33; i >= 4; i--) {
            places.add("undo = " + (i - 4));
            places.add("spot " + i / 2 % 4 + " 2 = " + (i % 2 == 0 ? -1 : 0));
            places.add("count 3 = " + i % 2);
        }
        run("at most 30 are kept, of all SPOTS", places.toArray(new String[0]));
    }

    private static void chains() {
        run("0: it is unpainted", and(BEGUN, "chain 2 0 = 0", "chain 3 3 = 0"));
        run("0: it has that COLOUR", and(BEGUN, "chain 0 0 = 0", "chain 1 3 = 0"));
        run("it, and no other", and(BEGUN, "chain 0 1 = 1", "chain 0 2 = 1", "chain 1 2 = 2"));
        run("it, and SPOTS of both COLOURS", and(BEGUN, "chain 0 3 = 3", "chain 1 0 = 3"));
        for (String colour : FAR) {
            thrown("no such COLOUR", BEGUN, "chain 0 " + colour + " = Illegal");
            thrown("no such COLOUR, though it is unpainted", BEGUN, "chain 2 " + colour + " = Illegal");
            thrown("IllegalArgumentException behind NoSuchElementException", BEGUN, "chain 4 " + colour + " = NoSuch");
        }
        thrown("no such SPOT", BEGUN, "chain -1 0 = NoSuch");
        thrown("asking changes nothing", BEGUN, "chain 0 3 = 3");
        // a row of SPOTS that hang together one by one, the last one SPOT 11
        run("a CHAIN that is long", "atlas: " + Texts.tops(9) + " = 0", "paint 2 0 = 1", "paint 3 1 = 2", "paint 4 0 = 3",
            "paint 5 1 = 4", "paint 6 0 = 5", "paint 7 1 = 6", "paint 8 0 = 7", "paint 9 1 = 8", "chain 2 1 = 0x3fc",
            "chain 9 0 = 0x3fc", "paint 10 2 = 9", "chain 2 1 = 0x3fc", "wash 5 = 1", "chain 2 1 = 0x1c", "chain 9 0 = 0x3c0");
    }

    private static void solving() {
        run("none are unpainted", T, "paint 0 3 = 1", "paint 1 2 = 2", "paint 2 1 = 3", "paint 3 0 = 4", "ways = 1", "solve 0 = 3",
            "solve 3 = 0");
        run("all are unpainted: the first way, SPOTS the least ahead", T, "ways = 24", "solve 0 = 0", "solve 1 = 1", "solve 2 = 2",
            "solve 3 = 3");
        run("one is unpainted", T, "paint 0 3 = 1", "paint 1 2 = 2", "paint 3 0 = 3", "ways = 1", "solve 2 = 1");
        String[] full = {O, "paint 2 0 = 1", "paint 3 1 = 2", "paint 4 2 = 3", "paint 5 3 = 4"};
        run("none: NONE, and 0 ways", and(full, "ways = 0", "solve 0 = -1", "solve 1 = -1"));
        run("none: NONE of a painted one, too", and(full, "solve 2 = -1", "solve 5 = -1"));
        run("there is one again", and(full, "swap 4 0 = 1", "ways = 1", "solve 0 = 2", "solve 4 = 0", "solve 1 = 2"));
        run("none, though all are FREE for a COLOUR", "atlas: spot 3 4 2;spot 3 2 4;spot 1 3 0 4;spot 1 4 0 2;spot 2 0 3 1; = 0",
            "paint 0 1 = 1", "paint 1 0 = 2", "paint 2 3 = 3", "spot 3 3 = 4", "spot 4 3 = 4", "ways = 0", "solve 3 = -1",
            "solve 4 = -1", "solve 0 = -1");
        run("without SPOTS there is one way", "ways = 1", "atlas: piece 5; = 0", "ways = 1");
        String three = Texts.TETRAHEDRON + "spot 5 6 7;spot 4 7 6;spot 4 5 7;spot 4 6 5;"
            + "spot 9 10 11;spot 8 11 10;spot 8 9 11;spot 8 10 9;";
        run("the most ways", "atlas: " + three + " = 0", "ways = 13824", "solve 8 = 0", "solve 11 = 3", "paint 11 0 = 1",
            "ways = 3456", "solve 8 = 1", "solve 10 = 3", "solve 11 = 0");
        run("the first way by SPOTS, the least ahead", O, "paint 5 0 = 1", "ways = 24", "solve 0 = 1", "solve 1 = 1",
            "solve 2 = 2", "solve 3 = 0", "solve 4 = 2", "solve 5 = 0");
        thrown("asking changes nothing", BEGUN, "solve 2 = 1");
        thrown("asking changes nothing", BEGUN, "ways = 2");
        thrown("no such SPOT", BEGUN, "solve 4 = NoSuch");
        thrown("no such SPOT", BEGUN, "solve -1 = NoSuch");
    }

    // by 0 and 1, by 1 and 3, no CHAIN of one SWAP leaves spot 4 a COLOUR; 0 to 1 and then 1 to 3 do
    private static final String[] TWO_SWAPS = {
        "atlas: spot 2 3 1 4;spot 3 4 0;spot 0 4 5 3;spot 4 1 0 2 5;spot 5 2 0 1 3;spot 3 2 4; = 0",
        "paint 2 3 = 1", "paint 3 2 = 2", "paint 0 0 = 3", "paint 1 1 = 4", "paint 5 1 = 5"};
    private static final String[] NO_SWAPS = {
        "atlas: spot 6 3 2;spot 5 2 4;spot 1 5 6 0 3 4;spot 6 5 4 2 0;spot 3 5 1 2;spot 6 2 1 4 3;spot 3 0 2 5; = 0",
        "paint 5 0 = 1", "paint 6 2 = 2", "paint 1 2 = 3", "paint 4 1 = 4", "paint 3 3 = 5", "paint 0 1 = 6"};

    private static void freeing() {
        run("0 SWAPS: it is FREE for some; no first one", T, "free 0 0 = 0", "free 0 1 = -1", "paint 1 1 = 1", "paint 2 2 = 2",
            "paint 3 3 = 3", "free 0 0 = 0", "free 0 1 = -1");
        run("NONE: it is painted", T, "paint 0 0 = 1", "free 0 0 = -1", "free 0 1 = -1");
        run("1 SWAP: the first of SPOTS and COLOURS", O, "paint 2 0 = 1", "paint 3 1 = 2", "paint 4 2 = 3", "paint 5 3 = 4",
            "free 0 0 = 1", "free 0 1 = 22", "free 1 0 = 1", "free 1 1 = 22");
        run("1 SWAP: the first SPOT, COLOUR 0", "atlas: spot 4 1 2;spot 4 3 2 0;spot 4 0 1 3;spot 1 4 2;spot 0 2 3 1; = 0",
            "paint 3 0 = 1", "paint 1 1 = 2", "paint 0 3 = 3", "paint 2 2 = 4", "spot 4 3 = 0", "free 4 0 = 1", "free 4 1 = 0");
        run("2 SWAPS: the first of the first row", and(TWO_SWAPS, "spot 4 3 = 0", "free 4 0 = 2", "free 4 1 = 1", "swap 0 1 = 2",
            "free 4 0 = 1", "free 4 1 = 13", "swap 1 3 = 1", "free 4 0 = 0", "free 4 1 = -1"));
        for (int move = 0; move < 60; move++) {
            if (move % 10 < 4) {
                one(move);
            }
        }
        run("NONE: none by 0 to 2 SWAPS", and(NO_SWAPS, "spot 2 3 = 0", "free 2 0 = -1", "free 2 1 = -1", "count 3 = 6"));
        for (String what : rows("-1", "2", "0x80000000", "0x7fffffff")) {
            thrown("another what", BEGUN, "free 0 " + what + " = NoSuch");
            thrown("another what, and no such SPOT", BEGUN, "free 4 " + what + " = NoSuch");
        }
        thrown("no such SPOT", BEGUN, "free 4 0 = NoSuch");
        thrown("no such SPOT", BEGUN, "free -1 1 = NoSuch");
        thrown("asking changes nothing", TWO_SWAPS, "free 4 1 = 1");
        thrown("asking changes nothing", NO_SWAPS, "free 2 0 = -1");
    }

    /** No one SWAP of TWO_SWAPS leaves spot 4 FREE for a COLOUR. */
    private static void one(int move) {
        MapPieces x = Check.of(TWO_SWAPS[0].substring(7, TWO_SWAPS[0].length() - 4));
        for (int[] painted : new int[][] {{2, 3}, {3, 2}, {0, 0}, {1, 1}, {5, 1}}) {
            x.paint(painted[0], painted[1]);
        }
        x.swap(move / 10, move % 10);
        CHECK.due("no one SWAP frees it: " + move, x.spot(4, 3), 0);
    }

    private static void playing() {
        run("without SPOTS all are painted", "play 0 = 1", "play 1 = -1");
        run("1, also if all are painted; no move", T, "paint 0 0 = 1", "paint 1 1 = 2", "paint 2 2 = 3", "paint 3 3 = 4",
            "play 0 = 1", "play 1 = -1");
        run("at most 4 SPOTS are unpainted", T, "play 0 = 1", "play 1 = 0");
        run("5 are unpainted", "atlas: " + Texts.tops(3) + " = 0", "play 0 = -1", "play 1 = -1", "paint 4 0 = 1", "play 0 = 1",
            "play 1 = 21", "wash 4 = 0", "play 0 = -1", "play 1 = -1");
        run("12 are unpainted", "atlas: " + Texts.ICOSAHEDRON + " = 0", "play 0 = -1", "play 1 = -1");
        run("2: one is left that is FREE for none; no move", O, "paint 2 0 = 1", "paint 3 1 = 2", "paint 4 2 = 3", "paint 5 3 = 4",
            "play 0 = 2", "play 1 = -1", "wash 5 = 3", "play 0 = 1", "play 1 = 3");
        // spot 0 can have 0 and 2, its NEIGHBOUR 2 just 0: the first one paints one of them so that the other can be, too
        run("the first one's first move, least", "atlas: spot 2 3 1;spot 3 4 2 0;spot 0 1 4 3;spot 1 0 2 4;spot 2 1 3; = 0",
            "paint 4 2 = 1", "paint 1 1 = 2", "paint 3 3 = 3", "spot 0 3 = 5", "spot 2 3 = 1", "play 0 = 1", "play 1 = 2",
            "paint 0 2 = 4", "play 0 = 1", "play 1 = 20");
        run("2, though all could be PAINTED", "atlas: spot 5 2 1;spot 4 3 5 0 2;spot 3 4 1 0 5;spot 1 4 2 5;spot 1 2 3;spot 2 0 1 3;"
            + " = 0", "paint 2 1 = 1", "paint 5 0 = 2", "paint 0 3 = 3", "ways = 1", "play 0 = 2", "play 1 = -1");
        run("2, 4 unpainted, though all could be PAINTED",
            "atlas: spot 2 4 3 1;spot 3 5 2 0;spot 5 4 0 1;spot 4 5 1 0;spot 2 5 3 0;spot 1 3 4 2; = 0", "paint 5 2 = 1",
            "paint 0 0 = 2", "ways = 2", "play 0 = 2", "play 1 = -1");
        run("3 unpainted, the first move that wins isn't the first there is",
            "atlas: spot 1 2 4 3;spot 2 0 3;spot 4 0 1 3;spot 4 2 1 0;spot 3 0 2; = 0", "paint 3 2 = 1", "paint 0 1 = 2",
            "play 0 = 1", "play 1 = 20");
        run("4 unpainted, the first move that wins isn't the first there is",
            "atlas: spot 2 4 1 3;spot 0 4 3;spot 4 0 3;spot 2 0 1 4;spot 0 2 3 1; = 0", "paint 0 0 = 1", "play 0 = 1", "play 1 = 31");
        run("4 unpainted, one of them FREE for none",
            "atlas: spot 5 6 1 3;spot 3 0 6 7 4;spot 3 6 5;spot 5 0 1 4 6 2;spot 1 7 6 3;spot 2 6 0 3;spot 1 0 5 2 3 4 7;spot 4 1 6; = 0",
            "paint 6 0 = 1", "paint 4 3 = 2", "paint 1 2 = 3", "paint 5 1 = 4", "play 0 = 2", "play 1 = -1");
        lastMoves();
        for (String what : rows("-1", "2", "0x80000000", "0x7fffffff")) {
            thrown("another what", BEGUN, "play " + what + " = NoSuch");
        }
        thrown("asking changes nothing", BEGUN, "play 1 = 21");
        thrown("asking changes nothing", BEGUN, "play 0 = 1");
    }

    /** One SPOT is left, each once: the first move is that SPOT by the COLOUR it had in a whole painting. */
    private static void lastMoves() {
        int[] colours = new int[12];
        MapPieces whole = Check.of(Texts.ICOSAHEDRON);
        for (int spot = 0; spot < 12; spot++) {
            colours[spot] = whole.solve(spot);
            whole.paint(spot, colours[spot]);
        }
        for (int left = 0; left < 12; left++) {
            MapPieces x = Check.of(Texts.ICOSAHEDRON);
            for (int spot = 0; spot < 12; spot++) {
                if (spot != left) {
                    x.paint(spot, colours[spot]);
                }
            }
            int free = x.spot(left, 3);
            CHECK.due("one SPOT is left: the first one wins", x.play(0), 1);
            CHECK.due("10 by the SPOT, and COLOUR", x.play(1), 10 * left + Integer.numberOfTrailingZeros(free));
        }
    }

    public static void main(String[] args) {
        painting();
        washing();
        swapping();
        tuning();
        undoing();
        chains();
        solving();
        freeing();
        playing();
        CHECK.end();
    }
}
