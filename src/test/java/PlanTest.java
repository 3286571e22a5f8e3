/** Promises 31 and 32: plans on sheets. */
public final class PlanTest {
    private static final Check CHECK = new Check("PlanTest");
    private static final String T = Texts.TETRAHEDRON;

    private static void plan(MapPieces x, String text, int steps, int... told) {
        CHECK.due("plan '" + text + "'", Check.plan(x, text), steps);
        for (int what = 0; what < 4; what++) {
            CHECK.due("planned(" + what + ") of '" + text + "'", x.planned(what), told[what]);
        }
        CHECK.due("no sheet lies", x.count(9), 0);
        CHECK.due("the tape is empty", x.count(13), 0);
    }

    private static void steps() {
        plan(Check.of(T), "", 0, -1, 0, 1, 0);
        plan(Check.of(T), " \n", 0, -1, 0, 1, 0);
        plan(Check.of(T), "paint 0 0;", 1, -1, 1, 1, 0);
        plan(Check.of(T), "paint0 0 ;wash\n0;", 2, -1, 0, 1, 0);
        plan(Check.of(T), "paint 0 0;paint 1 1;swap 0 1;paint 2 2;paint 3 3;", 5, -1, 4, 1, 0);
        plan(Check.of(T), "paint 0 0;swap 0 1;paint 1 1;", 2, 19, 1, 1, 0);
        plan(Check.of(T), "paint 0 0;sheet;wash 0;off;wash 0;", 5, -1, 0, 2, 0);
        plan(Check.of(T), "paint 0 0;sheet;wash 0;", 3, -1, 0, 2, 10);
        plan(Check.of(T), "sheet;paint 0 0;off;sheet;sheet;paint 0 1;off;paint 0 2;", 8, -1, 1, 3, 20);
        plan(new MapPieces(), "sheet;off;", 2, -1, 0, 2, 0);
        plan(new MapPieces(), "paint 0 0;", 0, 0, 0, 1, 0);
    }

    private static void breaks() {
        String[] texts = {"foo;", "paint", "paint ;", "paint 0", "paint 0 ;", "paint 0 0", "paint 0 0 0;", "paint 0 00000;",
            "paint 12345 0;", "paint x 0;", "sheet", "sheet 0;", "off 1;", "wash;", "wash 0 0;", "swap 0;", ";", "Paint 0 0;",
            "paint 0 0,", "5", "12345", "piece 5;", "faint 0 0;",
            "zash 0;", "swaq 0 0;", "cheet;", "ofg;"};
        int[] places = {0, 5, 6, 7, 8, 9, 10, 8, 6, 6, 5, 6, 4, 4, 7, 6, 0, 0, 9, 0, 0, 0, 0, 0, 0, 0, 0};
        for (int i = 0; i < texts.length; i++) {
            plan(Check.of(T), texts[i], 0, places[i], 0, 1, 0);
            plan(Check.of(T), " paint 3 3; " + texts[i], 1, 12 + places[i], 1, 1, 0);
        }
        plan(Check.of(T), "paint 0   ", 0, 10, 0, 1, 0);
        String[] undoable = {"paint 4 0;", "paint 9999 0;", "paint 0 4;", "paint 3 0;", "paint 0 3;", "wash 0;", "wash 4;",
            "swap 0 1;", "swap 3 3;", "swap 3 4;", "swap 4 0;", "off;", "paint 0 9999;"};
        for (String one : undoable) {
            plan(Check.of(T), " paint 3 3; " + one + "sheet;", 1, 12, 1, 1, 0);
        }
        // what can't be done breaks off when its ';' is read: a token that can't stand there comes first
        plan(Check.of(T), "paint 9 9 9;", 0, 10, 0, 1, 0);
    }

    private static void manySheets() {
        MapPieces x = Check.of(T);
        String sheet = "sheet;";
        plan(x, sheet.repeat(7), 7, -1, 0, 8, 76543210);
        CHECK.due("laid", x.count(8), 8);
        CHECK.due("the latest off", x.count(10), 0);
        plan(x, sheet.repeat(8) + "paint 0 0;", 7, 42, 0, 8, 54321098);
        CHECK.due("laid", x.count(8), 16);
        CHECK.due("the latest off", x.count(10), 8);
        plan(x, "sheet;off;".repeat(60), 120, -1, 0, 2, 6);
        CHECK.due("laid", x.count(8), 77);
        CHECK.due("the latest off", x.count(10), 16);
        plan(x, "off;", 0, 0, 0, 1, 7);
        CHECK.due("the latest off", x.count(10), 77);
        // 80, 79 and 78, each by its last digit, 0 ahead left out
        plan(x, "sheet;sheet;", 2, -1, 0, 3, 98);
    }

    private static void mapStays() {
        MapPieces x = Check.of("rule 5 from 3 3 to 3 3;" + T);
        x.paint(0, 0);
        x.paint(1, 1);
        x.undo();
        x.image();
        x.note(0, 30);
        plan(x, "wash 0;paint 0 2;paint 1 3;sheet;swap 0 3;", 5, -1, 2, 2, 10);
        CHECK.due("spot 0", x.spot(0, 2), 0);
        CHECK.due("spot 1", x.spot(1, 2), -1);
        CHECK.due("acts", x.count(11), 1);
        CHECK.due("noted", x.count(12), 1);
        CHECK.due("refused", x.count(14) + x.count(15) + x.count(16), 0);
        plan(x, "paint 0 2;", 0, 0, 1, 1, 2);
        CHECK.due("a step that can't be done is no refused call", x.count(14) + x.count(15) + x.count(16), 0);
        CHECK.due("undo", x.undo(), 0);
        CHECK.due("restore", x.restore() ? 1 : 0, 1);
        CHECK.due("plans stay told", x.planned(3), 2);
    }

    private static void wrong() {
        MapPieces x = Check.of(T);
        CHECK.due("none yet", x.planned(0), -1);
        CHECK.due("none yet", x.planned(1), -1);
        CHECK.due("none yet", x.planned(2), -1);
        CHECK.due("none yet", x.planned(3), -1);
        CHECK.isThrown("planned(4)", Check.NO_SUCH, () -> x.planned(4));
        CHECK.isThrown("planned(-1)", Check.NO_SUCH, () -> x.planned(-1));
        Check.feed(x, "paint 0 0;");
        CHECK.isThrown("plan(21)", Check.ILLEGAL, () -> x.plan(21));
        CHECK.isThrown("plan(-1)", Check.ILLEGAL, () -> x.plan(-1));
        CHECK.due("the tape stays", x.count(13), 20);
        CHECK.due("no sheet was laid", x.count(8), 0);
        CHECK.due("none yet", x.planned(2), -1);
        CHECK.due("a part of the tape", x.plan(9), 0);
        CHECK.due("too soon", x.planned(0), 9);
        CHECK.due("empty", x.count(13), 0);
        CHECK.isThrown("plan(1)", Check.ILLEGAL, () -> x.plan(1));
        CHECK.due("nothing changes", x.planned(0), 9);
        Check.atlas(x, T + "?");
        CHECK.due("a fault leaves it", x.planned(0), 9);
        CHECK.due("a fault leaves it", x.count(10), 0);
        Check.atlas(x, T);
        CHECK.due("gone", x.planned(0), -1);
        CHECK.due("gone", x.planned(2), -1);
        CHECK.due("gone", x.count(10), -1);
        CHECK.due("sheets are numbered ever", x.count(8), 1);
        plan(x, "sheet;", 1, -1, 0, 2, 21);
    }

    public static void main(String[] args) {
        steps();
        breaks();
        manySheets();
        mapStays();
        wrong();
        CHECK.end();
    }
}
