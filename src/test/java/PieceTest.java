/** Promises 6 to 14: pieces, their rings and colourings. */
public final class PieceTest {
    private static final Check CHECK = new Check("PieceTest");

    private static void row(String text, int... due) {
        MapPieces x = Check.of(text);
        for (int what = 0; what < due.length; what++) {
            CHECK.due(text + " piece(0, " + what + ")", x.piece(0, what), due[what]);
        }
    }

    private static void pieces() {
        // hub, spokes, places, vertices, edges, colourings, extending, bad, rounds, D, joins, joined, C
        row("piece 5;", 5, 0, 5, 6, 10, 10, 5, 5, 0, 0, 0, 0, 0);
        row("piece 6;", 6, 0, 6, 7, 12, 31, 11, 20, 0, 0, 0, 0, 0);
        row("piece 7;", 7, 0, 7, 8, 14, 91, 21, 70, 0, 0, 0, 0, 0);
        row("piece 5 5;", 5, 1, 6, 8, 15, 31);
        row("piece 5 5 5;", 5, 2, 6, 9, 18, 31);
        row("piece 5 5 5 5;", 5, 3, 6, 10, 21, 31, 16, 0, 5, 1, 0, 0, 0);
        row("piece 5 5 5 5 5;", 5, 4, 6, 11, 24, 31);
        row("piece 5 5 5 5 5 5;", 5, 5, 5, 11, 25, 10, 10, 0, 0, 1, 0, 0, 0);
        row("piece 5 5 6 5;", 5, 3, 7, 11, 23, 91);
        row("piece 7 5 5 5 5 5 5 5;", 7, 7, 7, 15, 35, 91);
        MapPieces x = Check.of("piece 5 5 5 5;piece 6;");
        CHECK.due("the second piece", x.piece(1, 0), 6);
        for (int what : new int[] {-1, 13}) {
            CHECK.isThrown("piece(0, " + what + ")", Check.NO_SUCH, () -> x.piece(0, what));
        }
        for (int piece : new int[] {-1, 2, 4, Integer.MAX_VALUE}) {
            CHECK.isThrown("piece(" + piece + ", 0)", Check.NO_SUCH, () -> x.piece(piece, 0));
        }
    }

    private static void joins() {
        // place 0 and 2 joined to the hub: both have its colour, the others not
        row("piece 5;join 0 5;join 5 2;", 5, 0, 5, 6, 10, 10, 5, 5, 0, 0, 2, 3, 0);
        // places side by side can't both have the hub's colour
        row("piece 5;join 0 5;join 1 5;", 5, 0, 5, 6, 10, 10, 5, 5, 0, 0, 2, 0, 0);
        row("piece 5 5 5 5;join 0 6;", 5, 3, 6, 10, 21, 31, 16, 0, 5, 1, 1);
        MapPieces x = Check.of("piece 5;join 0 5;join 5 2;");
        int joined = 0;
        for (int i = 0; i < 10; i++) {
            boolean alike = x.colour(0, i, 0) == x.colour(0, i, 2);
            boolean others = x.colour(0, i, 3) != 0 && x.colour(0, i, 4) != 0;
            joined |= alike && others ? 1 << i : 0;
        }
        CHECK.due("set joined", x.set(0, 2, 0), joined);
        MapPieces y = Check.of("piece 5;piece 5 5 5 5;join 6 8;");
        CHECK.due("no joins of piece 0", y.piece(0, 10), 0);
        CHECK.due("a join of piece 1", y.piece(1, 10), 1);
        CHECK.due("C", y.piece(1, 12), 1);
    }

    private static void vertices() {
        MapPieces x = Check.of("piece 5 5 5 5;piece 5 5 5 5 5 5;piece 7;piece 5 6;");
        // spokes at 7 (places 0 1 2), 8 (2 3), 9 (3 4 5); the hub at 6 (5 0)
        int[] due = {bits(1, 5, 6, 7), bits(0, 2, 7), bits(1, 3, 7, 8), bits(2, 4, 8, 9), bits(3, 5, 9), bits(4, 0, 9, 6),
            bits(7, 8, 9, 5, 0), bits(6, 8, 0, 1, 2), bits(6, 7, 9, 2, 3), bits(6, 8, 3, 4, 5)};
        for (int v = 0; v < 10; v++) {
            CHECK.due("vertex(0, " + v + ")", x.vertex(0, v), due[v]);
        }
        CHECK.due("hub of a wheel", x.vertex(1, 5), bits(6, 7, 8, 9, 10));
        CHECK.due("its first spoke", x.vertex(1, 6), bits(5, 7, 10, 0, 1));
        CHECK.due("its last spoke", x.vertex(1, 10), bits(5, 9, 6, 4, 0));
        CHECK.due("hub alone", x.vertex(2, 7), 127);
        CHECK.due("spoke of 6", x.vertex(3, 8), bits(7, 0, 1, 2, 3, 4));
        CHECK.due("its hub", x.vertex(3, 7), bits(8, 4, 5, 6, 0));
        CHECK.isThrown("vertex(0, 10)", Check.NO_SUCH, () -> x.vertex(0, 10));
        CHECK.isThrown("vertex(0, -1)", Check.NO_SUCH, () -> x.vertex(0, -1));
        CHECK.isThrown("vertex(4, 0)", Check.NO_SUCH, () -> x.vertex(4, 0));
    }

    private static int bits(int... ones) {
        int result = 0;
        for (int one : ones) {
            result |= 1 << one;
        }
        return result;
    }

    private static void colourings() {
        MapPieces x = Check.of("piece 5;piece 7;");
        for (int i = 0; i < 10; i++) {
            int digits = 0;
            for (int place = 0; place < 5; place++) {
                digits = 10 * digits + x.colour(0, i, place);
            }
            CHECK.due("colouring " + i + " round", x.named(0, digits), i);
        }
        CHECK.due("the first of seven", digits(x, 1, 0), 101012);
        CHECK.due("the last of seven", digits(x, 1, 90), 123232);
        for (int i = 1; i < 91; i++) {
            MapPieces fresh = Check.of("piece 5;piece 7;");
            CHECK.due("in order", digits(fresh, 1, i - 1) < digits(fresh, 1, i) ? 1 : 0, 1);
        }
        CHECK.isThrown("colour(0, 10, 0)", Check.NO_SUCH, () -> x.colour(0, 10, 0));
        CHECK.isThrown("colour(0, -1, 0)", Check.NO_SUCH, () -> x.colour(0, -1, 0));
        CHECK.isThrown("colour(0, 0, 5)", Check.NO_SUCH, () -> x.colour(0, 0, 5));
        CHECK.isThrown("colour(0, 0, -1)", Check.NO_SUCH, () -> x.colour(0, 0, -1));
        CHECK.isThrown("colour(2, 0, 0)", Check.NO_SUCH, () -> x.colour(2, 0, 0));
        CHECK.due("colour(1, 90, 6)", x.colour(1, 90, 6), 2);
    }

    private static int digits(MapPieces x, int piece, int colouring) {
        int digits = 0;
        for (int place = 0; place < x.piece(piece, 2); place++) {
            digits = 10 * digits + x.colour(piece, colouring, place);
        }
        return digits;
    }

    private static void names() {
        MapPieces x = Check.of("piece 5;piece 6;");
        for (int i = 0; i < 10; i++) {
            CHECK.due("digits of " + i, digits(x, 0, i), OF_FIVE_IN_ORDER[i]);
        }
        CHECK.due("0 ahead left out", x.named(0, 1012), 0);
        CHECK.due("renamed", x.named(0, 32321), x.named(0, 1012));
        CHECK.due("renamed", x.named(0, 31312), x.named(0, 1012));
        CHECK.due("one place less", x.named(0, 101), -1);
        CHECK.due("ends alike", x.named(0, 12321), -1);
        CHECK.due("side by side alike", x.named(0, 11012), -1);
        CHECK.due("no colour 4", x.named(0, 1014), -1);
        CHECK.due("no colour 9", x.named(0, 91012), -1);
        CHECK.due("too many", x.named(0, 101012), -1);
        CHECK.due("far too many", x.named(0, Integer.MAX_VALUE), -1);
        CHECK.due("below 0", x.named(0, -1012), -1);
        CHECK.due("below all", x.named(0, Integer.MIN_VALUE), -1);
        CHECK.due("0", x.named(0, 0), -1);
        CHECK.due("of six", x.named(1, 10101), 0);
        CHECK.isThrown("named(2, 0)", Check.NO_SUCH, () -> x.named(2, 0));
        CHECK.isThrown("named(-1, 0)", Check.NO_SUCH, () -> x.named(-1, 0));
    }

    private static final int[] OF_FIVE_IN_ORDER = {1012, 1021, 1023, 1201, 1202, 1203, 1212, 1213, 1231, 1232};

    private static void levels() {
        MapPieces x = Check.of("piece 5 5 5 5;piece 5;piece 6;");
        int most = 0;
        int zeros = 0;
        for (int i = 0; i < 31; i++) {
            int level = x.level(0, i);
            most = Math.max(most, level);
            zeros += level == 0 ? 1 : 0;
            CHECK.due("extending is level 0", level == 0 ? 1 : 0, x.set(0, 0, 0) >> i & 1);
        }
        CHECK.due("rounds", most, 5);
        CHECK.due("extending", zeros, 16);
        // a hub alone: four colours round it are bad, three extend
        for (int i = 0; i < 10; i++) {
            int colours = 0;
            for (int place = 0; place < 5; place++) {
                colours |= 1 << x.colour(1, i, place);
            }
            CHECK.due("level(1, " + i + ")", x.level(1, i), colours == 15 ? -1 : 0);
            CHECK.due("extend(1, " + i + ", 0)", x.extend(1, i, 0), colours == 15 ? -1 : 3);
        }
        CHECK.due("two colours round the hub", x.extend(2, 0, 0), 2);
        CHECK.isThrown("level(0, 31)", Check.NO_SUCH, () -> x.level(0, 31));
        CHECK.isThrown("level(0, -1)", Check.NO_SUCH, () -> x.level(0, -1));
        CHECK.isThrown("level(3, 0)", Check.NO_SUCH, () -> x.level(3, 0));
    }

    private static void extensions() {
        MapPieces x = Check.of("piece 5 5 5 5;piece 5 5 5 5 5 5;");
        // 010102: the last spoke lies at 1 0 2 and has 3, so those ahead of it 2 and 3, and the hub 1;
        // in 010101 the hub and two spokes, each beside each, would have but 2 and 3
        int[] due = {1, 3, 2, 3};
        for (int i = 0; i < 4; i++) {
            CHECK.due("010102 at " + i, x.extend(0, x.named(0, 10102), i), due[i]);
            CHECK.due("010101 at " + i, x.extend(0, x.named(0, 10101), i), -1);
        }
        for (int colouring = 0; colouring < 10; colouring++) {
            MapPieces wheel = Check.of("piece 5 5 5 5;piece 5 5 5 5 5 5;");
            for (int i = 0; i < 6; i++) {
                CHECK.due("the wheel's first way", wheel.extend(1, colouring, i), firstByTrying(wheel, 1, colouring, i));
            }
        }
        for (int piece = 0; piece < 2; piece++) {
            for (int i = 0; i < x.piece(piece, 5); i++) {
                properExtension(Check.of("piece 5 5 5 5;piece 5 5 5 5 5 5;"), piece, i);
            }
        }
        CHECK.isThrown("extend(0, 0, 4)", Check.NO_SUCH, () -> x.extend(0, 0, 4));
        CHECK.isThrown("extend(0, 0, -1)", Check.NO_SUCH, () -> x.extend(0, 0, -1));
        CHECK.isThrown("extend(0, 31, 0)", Check.NO_SUCH, () -> x.extend(0, 31, 0));
        CHECK.isThrown("extend(2, 0, 0)", Check.NO_SUCH, () -> x.extend(2, 0, 0));
    }

    /** The first way by going through all colours of inner vertices, like a number of base 4. */
    private static int firstByTrying(MapPieces x, int piece, int colouring, int i) {
        int ring = x.piece(piece, 2);
        int all = x.piece(piece, 3);
        int[] colours = new int[all];
        int[] near = new int[all];
        for (int v = 0; v < all; v++) {
            near[v] = x.vertex(piece, v);
            colours[v] = v < ring ? x.colour(piece, colouring, v) : 0;
        }
        for (int code = 0; code < 1 << 2 * (all - ring); code++) {
            boolean fits = true;
            for (int v = 0; v < all && fits; v++) {
                colours[v] = v < ring ? colours[v] : code >> 2 * (all - 1 - v) & 3;
                for (int u = 0; u < v; u++) {
                    fits &= (near[v] >> u & 1) == 0 || colours[u] != colours[v];
                }
            }
            if (fits) {
                return colours[ring + i];
            }
        }
        return -1;
    }

    private static void properExtension(MapPieces x, int piece, int i) {
        int ring = x.piece(piece, 2);
        int[] colours = new int[x.piece(piece, 3)];
        for (int v = 0; v < colours.length; v++) {
            colours[v] = v < ring ? x.colour(piece, i, v) : x.extend(piece, i, v - ring);
        }
        for (int v = ring; v < colours.length; v++) {
            if (x.level(piece, i) != 0) {
                CHECK.due("no extension", colours[v], -1);
                continue;
            }
            for (int u = 0; u < colours.length; u++) {
                if ((x.vertex(piece, v) >> u & 1) == 1) {
                    CHECK.due("ends unlike", colours[u] != colours[v] ? 1 : 0, 1);
                }
            }
        }
    }

    private static void runs() {
        MapPieces x = Check.of("piece 5;piece 6;piece 7;");
        // 01023
        CHECK.due("010 23", x.runs(0, 2, 0, 0), 2);
        CHECK.due("010 23", x.runs(0, 2, 0, 1), 1);
        CHECK.due("0 1 02 3", x.runs(0, 2, 1, 0), 4);
        CHECK.due("0 1 02 3", x.runs(0, 2, 1, 1), 2);
        // 03 goes on round the end: 0 1 0 2 3 with 0 and 3, 1 and 2
        CHECK.due("0 1 0 2 3", x.runs(0, 2, 2, 0), 4);
        CHECK.due("0 1 0 2 3", x.runs(0, 2, 2, 1), 2);
        int all = x.named(1, 10101);
        CHECK.due("010101 is one run", x.runs(1, all, 0, 0), 1);
        CHECK.due("one way", x.runs(1, all, 0, 1), 1);
        CHECK.due("six runs", x.runs(1, all, 1, 0), 6);
        CHECK.due("five ways", x.runs(1, all, 1, 1), 5);
        CHECK.due("of seven", x.runs(2, x.named(2, 101012), 1, 0), 6);
        CHECK.due("of seven", x.runs(2, x.named(2, 101012), 1, 1), 5);
        CHECK.due("of seven", x.runs(2, x.named(2, 101012), 0, 0), 2);
        for (int bad : new int[] {-1, 3}) {
            CHECK.isThrown("runs pairing " + bad, Check.NO_SUCH, () -> x.runs(0, 0, bad, 0));
            CHECK.isThrown("switched pairing " + bad, Check.NO_SUCH, () -> x.switched(0, 0, bad, -1));
            CHECK.isThrown("runs piece " + bad, Check.NO_SUCH, () -> x.runs(bad, 0, 0, 0));
            CHECK.isThrown("switched piece " + bad, Check.NO_SUCH, () -> x.switched(bad, 0, 0, -1));
        }
        CHECK.isThrown("runs what 2", Check.NO_SUCH, () -> x.runs(0, 0, 0, 2));
        CHECK.isThrown("runs what -1", Check.NO_SUCH, () -> x.runs(0, 0, 0, -1));
        CHECK.isThrown("runs colouring 10", Check.NO_SUCH, () -> x.runs(0, 10, 0, 0));
        CHECK.isThrown("switched colouring 10", Check.NO_SUCH, () -> x.switched(0, 10, 0, -1));
    }

    private static void switching() {
        MapPieces x = Check.of("piece 5;piece 6;");
        CHECK.due("none", x.switched(0, 2, 1, 0), 2);
        // 0 1 02 3: run 1 is place 1, run 2 places 2 and 3, run 3 place 4
        CHECK.due("run 0", x.switched(0, 2, 1, 1), x.named(0, 21023));
        CHECK.due("run 1", x.switched(0, 2, 1, 2), x.named(0, 3023));
        CHECK.due("run 2", x.switched(0, 2, 1, 4), x.named(0, 1203));
        CHECK.due("run 3", x.switched(0, 2, 1, 8), x.named(0, 1021));
        CHECK.due("runs 1, 3", x.switched(0, 2, 1, 10), x.named(0, 3021));
        // 0 1 0 2 3 with 0 and 3: run 0 is places 4 and 0, run 1 place 1, run 2 place 2, run 3 place 3
        CHECK.due("round the end", x.switched(0, 2, 2, 1), x.named(0, 31020));
        CHECK.due("run 2", x.switched(0, 2, 2, 4), x.named(0, 1323));
        CHECK.due("all", x.switched(0, 2, 2, 15), 2);
        CHECK.isThrown("run 4", Check.ILLEGAL, () -> x.switched(0, 2, 2, 16));
        CHECK.isThrown("run 31", Check.ILLEGAL, () -> x.switched(0, 2, 2, Integer.MIN_VALUE));
        CHECK.isThrown("all runs", Check.ILLEGAL, () -> x.switched(0, 2, 2, -1));
        CHECK.due("one run", x.switched(1, x.named(1, 10101), 0, 1), x.named(1, 10101));
        CHECK.isThrown("no second one", Check.ILLEGAL, () -> x.switched(1, x.named(1, 10101), 0, 2));
    }

    private static void sets() {
        MapPieces x = Check.of("piece 7;piece 5;piece 5 6;join 7 8;");
        for (int piece = 0; piece < 3; piece++) {
            for (int what = 0; what < 3; what++) {
                int size = 0;
                for (int word = 0; word < 3; word++) {
                    size += Integer.bitCount(x.set(piece, what, word));
                }
                CHECK.due("size of set " + what, size, x.piece(piece, new int[] {6, 7, 11}[what]));
            }
        }
        for (int i = 0; i < 91; i++) {
            CHECK.due("bad " + i, x.set(0, 1, i / 32) >> i % 32 & 1, x.level(0, i) == -1 ? 1 : 0);
        }
        CHECK.due("five's", x.set(1, 0, 0), 91);
        CHECK.due("five's bad", x.set(1, 1, 0), 932);
        CHECK.due("five's words behind", x.set(1, 1, 1), 0);
        for (int bad : new int[] {-1, 3}) {
            CHECK.isThrown("set what " + bad, Check.NO_SUCH, () -> x.set(0, bad, 0));
            CHECK.isThrown("set word " + bad, Check.NO_SUCH, () -> x.set(0, 0, bad));
            CHECK.isThrown("set piece " + bad, Check.NO_SUCH, () -> x.set(bad, 0, 0));
        }
    }

    public static void main(String[] args) {
        pieces();
        joins();
        vertices();
        colourings();
        names();
        levels();
        extensions();
        runs();
        switching();
        sets();
        CHECK.end();
    }
}
