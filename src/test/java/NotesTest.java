/** Promises 33 to 38: what is noted and meant, years, image and restore. */
public final class NotesTest {
    private static final Check CHECK = new Check("NotesTest");
    private static final String T = Texts.TETRAHEDRON;
    // two tops (0, 1) of degree 5 over five spots of degree 4
    private static final String TOPS =
        "spot 2 3 4 5 6;spot 6 5 4 3 2;spot 0 6 1 3;spot 0 2 1 4;spot 0 3 1 5;spot 0 4 1 6;spot 0 5 1 2;";

    private static void noting() {
        MapPieces x = Check.of(T);
        CHECK.due("too little", x.note(0, -1000), -1);
        CHECK.due("too much", x.note(0, 1000), -1);
        CHECK.due("refused", x.count(16), 2);
        for (int i = 1; i <= 8; i++) {
            CHECK.due("note " + i, x.note(i % 4, i % 2 == 0 ? 999 : -999), i);
            CHECK.due("noted", x.count(12), i);
        }
        CHECK.due("there are 8", x.note(0, 30), -1);
        CHECK.due("refused", x.count(16), 3);
        CHECK.due("noted", x.count(12), 8);
        CHECK.due("no act", x.count(11), 0);
        CHECK.isThrown("no spot 4, ahead", Check.NO_SUCH, () -> x.note(4, 1000));
        CHECK.isThrown("no spot -1", Check.NO_SUCH, () -> x.note(-1, 0));
        CHECK.due("not refused, thrown", x.count(16), 3);
        x.forget();
        CHECK.due("forgotten", x.count(12), 0);
        CHECK.due("note again", x.note(0, 0), 1);
        CHECK.due("status stays", x.count(16), 3);
    }

    private static void meant(MapPieces x, int many, int first, int without) {
        CHECK.due("meant(0)", x.meant(0), many);
        CHECK.due("meant(1)", x.meant(1), first);
        CHECK.due("meant(2)", x.meant(2), without);
    }

    private static void meaning() {
        // a top has 10 and five times rule 0, less five times rule 1; rule 2 never sends
        MapPieces x = Check.of("rule 7 from 4 4 to 5 5;rule 1 from 5 5 to 4 4;rule 9 from 9 9 to 9 9;" + TOPS);
        CHECK.due("behind", x.spot(0, 5), 40);
        meant(x, 3 * 98, 1, 1);
        x.note(0, 40);
        meant(x, 98, 201, 1);
        x.forget();
        x.note(0, 60);
        meant(x, 1, 11, 0);
        x.note(1, 60);
        meant(x, 1, 11, 0);
        x.note(2, 20 - 2 * 11 + 2);
        meant(x, 1, 11, 0);
        x.note(3, 5);
        meant(x, 0, -1, 0);
        x.forget();
        x.note(0, 25);
        meant(x, 2, 4, 0);
        x.tune(0, 4);
        meant(x, 98, 201, 1);
        x.undo();
        x.forget();
        x.note(0, 41);
        meant(x, 0, -1, 0);
        x.forget();
        x.note(0, 10 + 5 * 99 - 5);
        meant(x, 1, 99, 0);
        x.forget();
        x.note(0, 10 + 5 * 100 - 5);
        meant(x, 0, -1, 0);
        x.forget();
        x.note(0, 10 + 5 * 7 - 5 * 99);
        meant(x, 1, 199, 0);
        CHECK.due("nothing changes", x.spot(0, 5), 40);
        CHECK.isThrown("meant(3)", Check.NO_SUCH, () -> x.meant(3));
        CHECK.isThrown("meant(-1)", Check.NO_SUCH, () -> x.meant(-1));
        MapPieces y = Check.of("rule 1 from 4 4 to 5 5;" + TOPS);
        meant(y, 98, 2, 1);
        MapPieces z = Check.of(T);
        meant(z, 0, -1, 1);
        z.note(0, 30);
        meant(z, 0, -1, 1);
        z.note(1, 31);
        meant(z, 0, -1, 0);
    }

    /** Years as the document tells them, done by calls that are undone behind. */
    private static int[] yearsByCalls(MapPieces x, int seed, int n) {
        int spots = x.count(2);
        int now = seed;
        int often = 0;
        for (int i = 0; i < n; i++) {
            int[] of = {3, spots, 4};
            int[] drawn = new int[3];
            for (int k = 0; k < 3; k++) {
                now = now * 1103515245 + 12345;
                drawn[k] = (now >>> 16 & 0x7fff) % of[k];
            }
            int answer = drawn[0] == 0 ? x.paint(drawn[1], drawn[2])
                : drawn[0] == 1 ? x.wash(drawn[1]) : x.swap(drawn[1], drawn[2]);
            often += answer == -1 ? 0 : 1;
        }
        int colours = 0;
        for (int spot = 0; spot < spots; spot++) {
            colours |= x.spot(spot, 2) >= 0 ? 1 << x.spot(spot, 2) : 0;
        }
        return new int[] {x.count(3), often, Integer.bitCount(colours)};
    }

    private static void years() {
        int[] seeds = {0, 1, 5, -1, 77, Integer.MIN_VALUE, Integer.MAX_VALUE, 123456789, -987654321};
        for (int seed : seeds) {
            for (int n : new int[] {0, 1, 2, 7, 40, 100}) {
                MapPieces x = Check.of(Texts.ICOSAHEDRON);
                x.paint(0, 3);
                x.paint(11, 2);
                int[] got = {x.years(seed, n, 0), x.years(seed, n, 1), x.years(seed, n, 2)};
                CHECK.due("nothing changes", x.count(3), 2);
                CHECK.due("no act", x.count(11), 2);
                CHECK.due("none refused", x.count(15), 0);
                int[] due = yearsByCalls(x, seed, n);
                for (int what = 0; what < 3; what++) {
                    CHECK.due("years(" + seed + ", " + n + ", " + what + ")", got[what], due[what]);
                }
            }
        }
        MapPieces y = new MapPieces();
        for (int what = 0; what < 3; what++) {
            CHECK.due("without spots", y.years(3, 100, what), 0);
        }
        CHECK.isThrown("n 101", Check.ILLEGAL, () -> y.years(1, 101, 0));
        CHECK.isThrown("n -1", Check.ILLEGAL, () -> y.years(1, -1, 0));
        CHECK.isThrown("what 3, ahead", Check.NO_SUCH, () -> y.years(1, 101, 3));
        CHECK.isThrown("what -1", Check.NO_SUCH, () -> y.years(1, 1, -1));
    }

    private static void imaging() {
        MapPieces x = Check.of("rule 7 from 3 3 to 3 3;" + T);
        CHECK.due("no image", x.restore() ? 1 : 0, 0);
        x.paint(0, 1);
        x.tune(0, 8);
        x.note(2, 30);
        x.image();
        x.wash(0);
        x.paint(1, 2);
        x.tune(0, 9);
        x.note(3, 31);
        x.note(3, 1000);
        x.forget();
        x.note(0, 1);
        x.note(1, 1);
        x.undo();
        CHECK.due("restore", x.restore() ? 1 : 0, 1);
        CHECK.due("colour", x.spot(0, 2), 1);
        CHECK.due("colour", x.spot(1, 2), -1);
        CHECK.due("amount", x.rule(0, 0), 8);
        CHECK.due("acts", x.count(11), 2);
        CHECK.due("noted", x.count(12), 1);
        CHECK.due("as noted", x.meant(2), 1);
        CHECK.due("status stays", x.count(16), 1);
        CHECK.due("undo", x.undo(), 1);
        CHECK.due("undone", x.rule(0, 0), 7);
        CHECK.due("undo", x.undo(), 0);
        CHECK.due("undone", x.spot(0, 2), -1);
        CHECK.due("restore again", x.restore() ? 1 : 0, 1);
        CHECK.due("colour", x.spot(0, 2), 1);
        x.wash(0);
        x.image();
        x.paint(0, 3);
        x.restore();
        CHECK.due("in place of the other", x.spot(0, 2), -1);
        CHECK.due("acts", x.count(11), 3);
        CHECK.due("undo", x.undo(), 2);
        CHECK.due("washed is undone", x.spot(0, 2), 1);
        Check.atlas(x, "?");
        CHECK.due("a fault leaves it", x.restore() ? 1 : 0, 1);
        Check.atlas(x, T);
        CHECK.due("gone", x.restore() ? 1 : 0, 0);
        x.image();
        CHECK.due("again", x.restore() ? 1 : 0, 1);
    }

    public static void main(String[] args) {
        noting();
        meaning();
        years();
        imaging();
        CHECK.end();
    }
}
