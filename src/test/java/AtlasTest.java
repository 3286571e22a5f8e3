/** Promises 1 to 5 and the faults of a text. */
public final class AtlasTest {
    private static final Check CHECK = new Check("AtlasTest");
    private static final String T = Texts.TETRAHEDRON;

    private static void newObject() {
        MapPieces x = new MapPieces();
        for (int what = 0; what < 17; what++) {
            CHECK.due("new count(" + what + ")", x.count(what), what == 10 ? -1 : 0);
        }
        for (int what = 0; what < 4; what++) {
            CHECK.due("new planned(" + what + ")", x.planned(what), -1);
        }
        CHECK.due("new fault", x.fault(), -1);
        CHECK.due("new ways", x.ways(), 1);
        CHECK.due("new undo", x.undo(), -1);
        CHECK.due("new restore", x.restore() ? 1 : 0, 0);
        CHECK.isThrown("new piece", Check.NO_SUCH, () -> x.piece(0, 0));
        CHECK.isThrown("new spot", Check.NO_SUCH, () -> x.spot(0, 0));
        CHECK.isThrown("new rule", Check.NO_SUCH, () -> x.rule(0, 0));
        CHECK.isThrown("new paint", Check.NO_SUCH, () -> x.paint(0, 0));
        CHECK.isThrown("new note", Check.NO_SUCH, () -> x.note(0, 0));
    }

    private static void feeding() {
        MapPieces x = new MapPieces();
        for (int i = 1; i <= 35; i++) {
            CHECK.due("feed " + i, x.feed(0x20202020, 0x0a0a0a0a, 0x20200a20, 0x20202020, 0x20202020), 20 * i);
        }
        CHECK.due("feed 36", x.feed(0, 0, 0, 0, 0), -1);
        CHECK.due("tape stays", x.count(13), 700);
        CHECK.due("all blanks", x.atlas(700), 0);
        CHECK.due("tape empty", x.count(13), 0);
        // "piece 5;" with the highest byte first, and a byte above 127 behind it
        CHECK.due("feed", x.feed(0x70696563, 0x6520353b, 0xff000000, 0, 0), 20);
        CHECK.due("8 bytes", x.atlas(8), 0);
        CHECK.due("a piece", x.count(0), 1);
        x.feed(0x70696563, 0x6520353b, 0xff000000, 0, 0);
        CHECK.due("9 bytes", x.atlas(9), 1);
        CHECK.due("at 8", x.fault(), 8);
    }

    private static void fault(String text, int number, int place) {
        MapPieces x = new MapPieces();
        CHECK.due("fault of '" + text + "'", Check.atlas(x, text), number);
        CHECK.due("place in '" + text + "'", x.fault(), number == 0 ? -1 : place);
        CHECK.due("status of '" + text + "'", x.count(14), number == 0 ? 0 : 1);
        CHECK.due("tape behind '" + text + "'", x.count(13), 0);
    }

    private static void good(String text) {
        fault(text, 0, -1);
    }

    private static void faultsOfTokens() {
        good("");
        good(" \n ");
        good("piece5;rule7from5 5to6 9;");
        good("piece 0005;");
        fault("pieces 5;", 1, 0);
        fault("Piece 5;", 1, 0);
        fault("niece 5;", 1, 0);
        fault("piecz 5;", 1, 0);
        fault("piecez 5;", 1, 0);
        fault("apiece 5;", 1, 0);
        fault("spor 1 2 3;", 1, 0);
        fault("rule 1 grom 3 3 to 9 9;", 1, 7);
        fault("rule 1 from 3 3 go 9 9;", 1, 16);
        fault("rule 1 from 3 3 to 9 9 moth 3 3;", 1, 23);
        fault("rule 1 from 3 3 to 9 9 kith 3 3;", 1, 23);
        fault("\tpiece 5;", 1, 0);
        fault("piece 5;\r", 1, 8);
        fault("piece\t5;", 1, 5);
        fault(" ;", 1, 1);
        fault("5", 1, 0);
        fault("12345", 1, 0);
        fault("foo 12345", 1, 0);
        fault("piece", 1, 5);
        fault("piece  \n", 1, 8);
        fault("piece 5", 1, 7);
        fault("piece 00005;", 2, 6);
        fault("piece 12345;", 2, 6);
        fault("piece 5.5;", 1, 7);
        fault("piece 5 -5;", 1, 8);
    }

    private static void faultsOfPieces() {
        fault("piece ;", 1, 6);
        fault("piece x;", 1, 6);
        fault("piece 4;", 2, 6);
        fault("piece 8;", 2, 6);
        good("piece 5;piece 6;piece 7;piece 5;");
        fault("piece 5;piece 6;piece 7;piece 5; piece x", 2, 33);
        fault("piece 5 4;", 2, 8);
        fault("piece 5 10;", 2, 8);
        good("piece 5 5 5 5 5 5;");
        fault("piece 5 5 5 5 5 5 5;", 2, 18);
        fault("piece 5 5 5 5 5 5 x;", 1, 18);
        good("piece 5 6;");
        fault("piece 5 7;", 2, 9);
        good("piece 7 5 5 5 5 5 5 5;");
        fault("piece 7 5 5 5 5 5 5;", 2, 19);
        fault("piece 7 5;", 2, 9);
        good("piece 5 5 5 5 5 7;");
        fault("piece 5 5 5 5 5 8;", 2, 17);
        fault("piece 5 9", 1, 9);
        fault("piece 5 9 ;", 2, 10);
    }

    private static void faultsOfJoins() {
        fault("join 0 5;", 3, 0);
        fault("rule 5 from 5 5 to 6 6;join", 3, 23);
        good("piece 5;join 0 5;");
        good("piece 5;rule 5 from 5 5 to 6 6;join 5 0;");
        fault("piece 5;join 6 5;", 3, 13);
        fault("piece 5;join 0 6;", 3, 15);
        fault("piece 5;join 12345 6;", 2, 13);
        fault("piece 5;join 0 12345;", 2, 15);
        fault("piece 5;join 9999 0;", 3, 13);
        fault("piece 5;join ; 0;", 1, 13);
        fault("piece 5;join 0 ;", 1, 15);
        fault("piece 5;join 5 5;", 4, 15);
        fault("piece 5;join 0 1;", 4, 15);
        fault("piece 5;join 0 2;", 4, 15);
        fault("piece 5;join 0 5;join 0 5;", 4, 24);
        fault("piece 5;join 0 5;join 5 0;", 4, 24);
        // the hub, at 6, has edges to places 5 and 0 and to the spokes at 7, 8 and 9
        good("piece 5 5 5 5;join 6 0;join 6 9;");
        fault("piece 5 5 5 5;join 6 1;", 4, 21);
        fault("piece 5 5 5 5;join 7 9;", 4, 21);
        good("piece 5;join 0 5;join 1 5;join 2 5;join 3 5;");
        fault("piece 5;join 0 5;join 1 5;join 2 5;join 3 5; join 4 5;", 2, 45);
        good("piece 5;join 0 5;join 1 5;join 2 5;join 3 5;piece 5;join 0 5;");
        fault("piece 5;join 0 5 1;", 1, 17);
        fault("piece 5;join 0 5", 1, 16);
    }

    private static void faultsOfRules() {
        good("rule 1 from 3 3 to 9 9;rule 99 from 3 9 to 3 9 with 3 9;rule 5 from 5 5 to 6 6 both 9 9;");
        fault("rule 0 from 3 3 to 9 9;", 2, 5);
        fault("rule 100 from 3 3 to 9 9;", 2, 5);
        fault("rule from 3 3 to 9 9;", 1, 5);
        fault("rule 1 form 3 3 to 9 9;", 1, 7);
        fault("rule 1 from 2 3 to 9 9;", 2, 12);
        fault("rule 1 from 10 3 to 9 9;", 2, 12);
        fault("rule 1 from 4 3 to 9 9;", 2, 14);
        fault("rule 1 from 4 10 to 9 9;", 2, 14);
        fault("rule 1 from 4 to 9 9;", 1, 14);
        fault("rule 1 from 4 4 with 9 9;", 1, 16);
        fault("rule 1 from 4 4 to 9 8;", 2, 21);
        fault("rule 1 from 4 4 to 9 9", 1, 22);
        fault("rule 1 from 4 4 to 9 9 to;", 1, 23);
        fault("rule 1 from 4 4 to 9 9 with;", 1, 27);
        fault("rule 1 from 4 4 to 9 9 with 4 3;", 2, 30);
        fault("rule 1 from 4 4 to 9 9 both 3 4 with 3 3;", 1, 32);
        String one = "rule 1 from 3 3 to 9 9;";
        good(one + one + one + one + one + one);
        fault(one + one + one + one + one + one + "rule x", 2, 6 * one.length());
    }

    private static void faultsOfSpots() {
        good(T);
        fault("spot ;", 1, 5);
        fault("spot 1;", 2, 6);
        fault("spot 1 2;", 2, 8);
        fault("spot 1 2", 1, 8);
        fault("spot 1 2 3;", 6, 11);
        fault("spot 1 2 12;", 2, 9);
        fault("spot 1 2 12345;", 2, 9);
        fault("spot 1 2 x;", 1, 9);
        fault("spot 1 0 3;", 4, 7);
        fault("spot 0 1 3;", 4, 5);
        fault("spot 1 2 1;", 4, 9);
        fault("spot 1 2 3;spot 1 2 3;", 4, 16);
        fault("spot 1 2 3 4 5 6 7 8 9 10;", 2, 23);
        fault("spot 1 2 3 4 5 6 7 8 9 1;", 2, 23);
        fault("spot 1 2 3 4 5 6 7 8 9 x;", 1, 23);
        fault("spot 1 2 3 4 5 6 7 8 9;", 6, 23);
        fault(T + "piece 4", 2, T.length() + 6);
        fault("spot 1 2 3;spot 0 3 2;spot 0 1 3;spot 0 1 2; ", 6, 45);
        fault("spot 1 2 3;spot 0 2 3;spot 0 1 3;spot 0 2 1;", 6, 44);
        fault("spot 1 2 3;spot 0 3 2;spot 0 1 3;spot 0 2 4;", 6, 44);
        // each begins with the spot that isn't told
        fault("spot 3 1 2;spot 3 2 0;spot 3 0 1;", 6, 33);
        // all turned over is a map again, also begun elsewhere
        good("spot 3 2 1;spot 2 3 0;spot 3 1 0;spot 0 1 2;");
        String two = T + "spot 5 6 7;spot 4 7 6;spot 4 5 7;spot 4 6 5;";
        String three = two + "spot 9 10 11;spot 8 11 10;spot 8 9 11;spot 8 10 9;";
        good(two);
        good(three);
        fault(three + "spot x", 2, three.length());
        // seven spots, each beside each, on a ring
        StringBuilder torus = new StringBuilder();
        for (int i = 0; i < 7; i++) {
            torus.append("spot");
            for (int step : new int[] {1, 3, 2, 6, 4, 5}) {
                torus.append(' ').append((i + step) % 7);
            }
            torus.append(';');
        }
        good(torus.toString());
        CHECK.due("no charge on a torus", Check.of(torus.toString()).count(4), 0);
    }

    private static void faultLeavesAll() {
        String text = "piece 5 5 5 5;rule 7 from 3 3 to 3 3;" + T;
        MapPieces x = Check.of(text);
        x.paint(0, 2);
        x.tune(0, 9);
        x.note(1, 5);
        x.image();
        Check.plan(x, "sheet;");
        CHECK.due("fault", Check.atlas(x, "piece 5; ?"), 1);
        CHECK.due("its place", x.fault(), 9);
        int[] due = {1, 1, 4, 1, 120, 120, 4, 15, 2, 0, 0, 2, 1, 0, 1, 0, 0};
        for (int what = 0; what < due.length; what++) {
            CHECK.due("behind a fault, count(" + what + ")", x.count(what), due[what]);
        }
        CHECK.due("spokes stay", x.piece(0, 1), 3);
        CHECK.due("colour stays", x.spot(0, 2), 2);
        CHECK.due("amount stays", x.rule(0, 0), 9);
        CHECK.due("plan stays", x.planned(2), 2);
        CHECK.due("image stays", x.restore() ? 1 : 0, 1);
        CHECK.isThrown("atlas(1) on an empty tape", Check.ILLEGAL, () -> x.atlas(1));
        CHECK.isThrown("atlas(-1)", Check.ILLEGAL, () -> x.atlas(-1));
        CHECK.due("nothing changes", x.fault(), 9);
        x.feed(0, 0, 0, 0, 0);
        CHECK.isThrown("atlas(21)", Check.ILLEGAL, () -> x.atlas(21));
        CHECK.due("the tape stays", x.count(13), 20);
        CHECK.due("a text of nothing", x.atlas(0), 0);
        CHECK.due("no fault", x.fault(), -1);
        int[] anew = {0, 0, 0, 0, 0, 0, 0, 0, 2, 0, -1, 0, 0, 0, 1, 0, 0};
        for (int what = 0; what < anew.length; what++) {
            CHECK.due("all anew, count(" + what + ")", x.count(what), anew[what]);
        }
        CHECK.due("plan gone", x.planned(2), -1);
        CHECK.due("image gone", x.restore() ? 1 : 0, 0);
        CHECK.due("acts gone", x.undo(), -1);
    }

    private static void sameTextAnew() {
        MapPieces x = Check.of("rule 7 from 3 3 to 3 3;" + T);
        x.paint(0, 2);
        x.tune(0, 9);
        x.paint(0, 3);
        CHECK.due("refused", x.count(15), 1);
        Check.atlas(x, "rule 7 from 3 3 to 3 3 with 3 3;" + T);
        CHECK.due("unpainted", x.spot(0, 2), -1);
        CHECK.due("as told", x.rule(0, 0), 7);
        CHECK.due("status stays", x.count(15), 1);
        Check.atlas(x, "rule 8 from 3 3 to 3 3;" + T);
        CHECK.due("told anew", x.rule(0, 0), 8);
        CHECK.due("without", x.rule(0, 7), 0);
        CHECK.due("without", x.rule(0, 5), 0);
        CHECK.due("without", x.rule(0, 6), 0);
    }

    /** What an earlier text told must not be seen behind a later one, or in it while it is read. */
    private static void nothingIsLeft() {
        MapPieces x = new MapPieces();
        for (int i = 0; i < 3; i++) {
            CHECK.due("a whole map", Check.atlas(x, T), 0);
        }
        CHECK.due("one spot less", Check.atlas(x, "spot 1 2 3;spot 0 3 2;spot 0 1 3;"), 6);
        for (int i = 0; i < 3; i++) {
            Check.atlas(x, "piece 5 5 5 5;join 6 8;join 0 6;join 0 7;rule 9 from 3 3 to 4 4 both 5 6;");
            CHECK.due("rounds", x.piece(0, 8), 5);
            CHECK.due("joins", x.piece(0, 10), 3);
        }
        for (int i = 0; i < 2; i++) {
            Check.atlas(x, "piece 5;rule 9 from 3 3 to 4 4;");
            int[] due = {5, 0, 5, 6, 10, 10, 5, 5, 0, 0, 0, 0, 0};
            for (int what = 0; what < due.length; what++) {
                CHECK.due("anew, piece(0, " + what + ")", x.piece(0, what), due[what]);
            }
            CHECK.due("anew, a vertex", x.vertex(0, 0), 0b110010);
            CHECK.due("anew, joined", x.set(0, 2, 0), 0);
            CHECK.due("anew, a rule", x.rule(0, 5) + x.rule(0, 6) + x.rule(0, 7), 0);
        }
    }

    private static void counting() {
        MapPieces x = Check.of("piece 5;piece 6;rule 2 from 3 3 to 5 9;" + Texts.ICOSAHEDRON);
        CHECK.due("pieces", x.count(0), 2);
        CHECK.due("rules", x.count(1), 1);
        CHECK.due("spots", x.count(2), 12);
        CHECK.due("ahead", x.count(4), 120);
        CHECK.due("behind", x.count(5), 120);
        CHECK.due("positive", x.count(6), 12);
        CHECK.due("open", x.count(7), 4095);
        MapPieces y = Check.of("piece 5 5 5 5;" + Texts.ICOSAHEDRON);
        CHECK.due("positive", y.count(6), 12);
        CHECK.due("none open", y.count(7), 0);
        for (int what : new int[] {-1, 17, Integer.MIN_VALUE, Integer.MAX_VALUE}) {
            CHECK.isThrown("count(" + what + ")", Check.NO_SUCH, () -> x.count(what));
        }
    }

    public static void main(String[] args) {
        newObject();
        feeding();
        faultsOfTokens();
        faultsOfPieces();
        faultsOfJoins();
        faultsOfRules();
        faultsOfSpots();
        faultLeavesAll();
        sameTextAnew();
        nothingIsLeft();
        counting();
        CHECK.end();
    }
}
