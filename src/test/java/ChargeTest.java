/** Promises 15 to 20: what rules send, neighbourhoods, cases, spots and their charges. */
public final class ChargeTest {
    private static final Check CHECK = new Check("ChargeTest");
    // an octahedron: six spots of degree 4
    private static final String OCTAHEDRON =
        "spot 1 2 3 4;spot 0 4 5 2;spot 0 1 5 3;spot 0 2 5 4;spot 0 3 5 1;spot 4 3 2 1;";
    // two tops (0, 1) over five spots of degree 4
    private static final String TOPS =
        "spot 2 3 4 5 6;spot 6 5 4 3 2;spot 0 6 1 3;spot 0 2 1 4;spot 0 3 1 5;spot 0 4 1 6;spot 0 5 1 2;";

    private static void sending() {
        MapPieces x = Check.of("rule 1 from 5 5 to 7 9;rule 2 from 5 6 to 8 8 with 5 5;rule 4 from 3 9 to 3 9 both 6 7;");
        CHECK.due("first rule", x.sends(5, 7, 5, 5), 1);
        CHECK.due("not from 6", x.sends(6, 7, 5, 5), 0);
        CHECK.due("not to 6", x.sends(5, 6, 5, 5), 0);
        CHECK.due("to 9", x.sends(5, 9, 5, 5), 1);
        CHECK.due("with both", x.sends(5, 8, 5, 5), 3);
        CHECK.due("with the first", x.sends(6, 8, 5, 9), 2);
        CHECK.due("with the second", x.sends(6, 8, 9, 5), 2);
        CHECK.due("with none", x.sends(6, 8, 9, 9), 0);
        CHECK.due("both", x.sends(3, 3, 6, 7), 4);
        CHECK.due("but one", x.sends(3, 3, 6, 8), 0);
        CHECK.due("but one", x.sends(3, 3, 5, 7), 0);
        CHECK.due("the first and third", x.sends(5, 9, 6, 6), 5);
        x.tune(2, 99);
        CHECK.due("tuned", x.sends(5, 9, 6, 6), 100);
        for (int bad : new int[] {2, 10, -1, Integer.MIN_VALUE}) {
            CHECK.isThrown("sends a " + bad, Check.ILLEGAL, () -> x.sends(bad, 5, 5, 5));
            CHECK.isThrown("sends b " + bad, Check.ILLEGAL, () -> x.sends(5, bad, 5, 5));
            CHECK.isThrown("sends x " + bad, Check.ILLEGAL, () -> x.sends(5, 5, bad, 5));
            CHECK.isThrown("sends y " + bad, Check.ILLEGAL, () -> x.sends(5, 5, 5, bad));
        }
    }

    private static void hubs() {
        MapPieces x = Check.of("piece 5 5 5 6;piece 5;piece 7 5 5 5 5 5 5 5;piece 6 5 5;"
            + "rule 2 from 5 5 to 7 9;rule 3 from 5 5 to 8 9 with 6 6;");
        CHECK.due("alone", x.hub(5, 55555, 0), 10);
        CHECK.due("to one 7", x.hub(5, 55557, 0), 8);
        CHECK.due("to 9 beside 5 and 6", x.hub(5, 55569, 0), 5);
        CHECK.due("to 9 at the end, 6 round it", x.hub(5, 65559, 0), 5);
        CHECK.due("to 9 between", x.hub(5, 55955, 0), 8);
        CHECK.due("from seven 5", x.hub(7, 5555555, 0), 4);
        CHECK.due("from three 5", x.hub(7, 5657577, 0), -4);
        CHECK.due("six", x.hub(6, 555555, 0), 0);
        CHECK.due("holds on", x.hub(5, 95567, 1), 3);
        CHECK.due("holds back", x.hub(5, 96557, 1), 3);
        CHECK.due("holds round", x.hub(5, 56995, 1), 3);
        CHECK.due("holds back round", x.hub(5, 59965, 1), 3);
        CHECK.due("holds back round", x.hub(5, 55996, 1), 3);
        CHECK.due("not side by side", x.hub(5, 59596, 1), 2);
        CHECK.due("the hub alone", x.hub(5, 99999, 1), 2);
        CHECK.due("a wheel", x.hub(7, 5555555, 1), 4);
        CHECK.due("no wheel", x.hub(7, 5555556, 1), 0);
        CHECK.due("of six", x.hub(6, 577775, 1), 8);
        CHECK.due("none of six", x.hub(6, 575757, 1), 0);
        CHECK.isThrown("what 2, ahead of all", Check.NO_SUCH, () -> x.hub(4, 0, 2));
        CHECK.isThrown("what -1", Check.NO_SUCH, () -> x.hub(5, 55555, -1));
        CHECK.isThrown("hub 4", Check.ILLEGAL, () -> x.hub(4, 5555, 0));
        CHECK.isThrown("hub 8", Check.ILLEGAL, () -> x.hub(8, 55555555, 0));
        for (int row : new int[] {5555, 555555, 55554, 45555, 50555, 0, -55555, Integer.MIN_VALUE, Integer.MAX_VALUE}) {
            CHECK.isThrown("row " + row, Check.ILLEGAL, () -> x.hub(5, row, 1));
        }
        CHECK.isThrown("row of 8", Check.ILLEGAL, () -> x.hub(7, 55555555, 0));
    }

    private static void casesOf(MapPieces x, int hub, int... due) {
        for (int what = 0; what < 6; what++) {
            CHECK.due("cases(" + hub + ", " + what + ")", x.cases(hub, what), due[what]);
        }
    }

    private static void cases() {
        MapPieces x = new MapPieces();
        casesOf(x, 5, 39, 39, 0, 39, 55555, 10);
        casesOf(x, 6, 92, 0, 0, 0, -1, 0);
        casesOf(x, 7, 198, 0, 0, 0, -1, -10);
        Check.atlas(x, "piece 5 5 5 5;piece 5;rule 2 from 5 5 to 7 7;");
        // six hold 555: 555 and 55, 56, 57, 66, 67, 77; five 7 take all: 10 less 10
        casesOf(x, 5, 39, 38, 6, 32, 55656, 10);
        casesOf(x, 7, 198, 1 + 1 + 1, 0, 3, 5555555, 4);
        x.tune(0, 3);
        casesOf(x, 5, 39, 36, 6, 30, 55656, 10);
        Check.atlas(x, "piece 7 5 5 5 5 5 5 5;rule 2 from 5 5 to 7 7;");
        casesOf(x, 7, 198, 3, 1, 2, 5555556, 4);
        CHECK.isThrown("what 6, ahead of all", Check.NO_SUCH, () -> x.cases(4, 6));
        CHECK.isThrown("what -1", Check.NO_SUCH, () -> x.cases(5, -1));
        CHECK.isThrown("hub 4", Check.ILLEGAL, () -> x.cases(4, 0));
        CHECK.isThrown("hub 8", Check.ILLEGAL, () -> x.cases(8, 0));
    }

    private static void spots() {
        MapPieces x = Check.of("piece 5 5 5;piece 5;rule 7 from 4 4 to 5 5;" + TOPS);
        // degree, neighbours, colour, free, ahead, behind, held
        int[] top = {5, 0b1111100, -1, 15, 10, 45, 2};
        int[] side = {4, 0b1001011, -1, 15, 20, 6, 0};
        for (int what = 0; what < 7; what++) {
            CHECK.due("spot(0, " + what + ")", x.spot(0, what), top[what]);
            CHECK.due("spot(2, " + what + ")", x.spot(2, what), side[what]);
        }
        CHECK.due("all ahead", x.count(4), 120);
        CHECK.due("all behind", x.count(5), 120);
        x.paint(2, 1);
        x.paint(0, 3);
        CHECK.due("colour", x.spot(2, 2), 1);
        CHECK.due("free beside 3", x.spot(2, 3), 7);
        CHECK.due("free beside 1", x.spot(0, 3), 13);
        CHECK.due("free beside both", x.spot(3, 3), 5);
        x.tune(0, 20);
        CHECK.due("tuned", x.spot(0, 5), 110);
        CHECK.due("tuned", x.spot(2, 5), -20);
        CHECK.due("positive", x.count(6), 2);
        CHECK.due("open", x.count(7), 3);
        CHECK.isThrown("what 7", Check.NO_SUCH, () -> x.spot(0, 7));
        CHECK.isThrown("what -1", Check.NO_SUCH, () -> x.spot(0, -1));
        CHECK.isThrown("spot 7", Check.NO_SUCH, () -> x.spot(7, 0));
        CHECK.isThrown("spot -1", Check.NO_SUCH, () -> x.spot(-1, 0));
        MapPieces y = Check.of("rule 5 from 5 5 to 5 5 with 4 4;rule 9 from 4 4 to 4 4 both 5 5;"
            + "rule 1 from 4 4 to 5 5 both 4 4;rule 3 from 5 5 to 4 4 both 4 5;" + TOPS);
        CHECK.due("those beside", y.spot(0, 5), 10 + 5 - 15);
        CHECK.due("those beside", y.spot(4, 5), 20 - 2 + 6);
        CHECK.due("an octahedron", Check.of("rule 5 from 4 4 to 4 4;" + OCTAHEDRON).spot(3, 5), 20);
    }

    // degrees 4, 3, 5, 5, 4, 3: a top (0), the other one (1), three between, and one (5) inside 0, 2, 3
    private static final String STACKED = "spot 2 5 3 4;spot 4 3 2;spot 5 0 4 1 3;spot 5 2 1 4 0;spot 0 3 1 2;spot 0 2 3;";

    private static void chargesRoundZero() {
        MapPieces x = Check.of("rule 29 from 3 3 to 4 4;" + STACKED);
        CHECK.due("1 is left", x.spot(5, 5), 1);
        CHECK.due("1 is positive", x.count(7) >> 5 & 1, 1);
        CHECK.due("the most", x.scaled(5, Integer.MAX_VALUE), Integer.MAX_VALUE);
        CHECK.due("the least", x.scaled(5, Integer.MIN_VALUE), Integer.MIN_VALUE);
        x.tune(0, 30);
        CHECK.due("none is left", x.spot(5, 5), 0);
        CHECK.due("0 isn't positive", x.count(7) >> 5 & 1, 0);
        x.tune(0, 31);
        CHECK.due("1 less", x.spot(5, 5), -1);
        CHECK.due("positive", x.count(6), 4);
        CHECK.due("open", x.count(7), 0b011101);
        CHECK.due("by the least but 1", x.scaled(5, Integer.MIN_VALUE + 1), Integer.MAX_VALUE);
        CHECK.isThrown("by the least", Check.ARITHMETIC, () -> x.scaled(5, Integer.MIN_VALUE));
        // one 7 beside a 5 takes 9 of 10, and 10 of 10
        MapPieces y = Check.of("rule 9 from 5 5 to 7 7;");
        CHECK.due("positive cases", y.cases(5, 1), 8 + 10);
        y.tune(0, 10);
        CHECK.due("positive cases", y.cases(5, 1), 8);
    }

    private static void scaling() {
        MapPieces x = Check.of("rule 20 from 4 4 to 5 5;" + TOPS);
        CHECK.due("by 0", x.scaled(0, 0), 0);
        CHECK.due("by 3", x.scaled(0, 3), 330);
        CHECK.due("by -3", x.scaled(2, -3), 60);
        CHECK.due("the most", x.scaled(0, 19522578), 2147483580);
        CHECK.isThrown("one more", Check.ARITHMETIC, () -> x.scaled(0, 19522579));
        CHECK.due("the least", x.scaled(0, -19522578), -2147483580);
        CHECK.isThrown("one less", Check.ARITHMETIC, () -> x.scaled(0, -19522579));
        CHECK.isThrown("the least by -20", Check.ARITHMETIC, () -> x.scaled(2, Integer.MIN_VALUE));
        CHECK.isThrown("no spot, ahead", Check.NO_SUCH, () -> x.scaled(7, Integer.MAX_VALUE));
        CHECK.isThrown("no spot", Check.NO_SUCH, () -> x.scaled(-1, 1));
        MapPieces y = Check.of("rule 20 from 5 5 to 4 4;rule 17 from 5 5 to 4 4;rule 5 from 4 4 to 5 5;"
            + "rule 30 from 5 5 to 4 4;" + TOPS);
        CHECK.due("10 less 5 by 62", y.spot(0, 5), -300);
        x.tune(0, 10);
        CHECK.due("none left", x.scaled(2, Integer.MIN_VALUE), 0);
    }

    private static void rules() {
        MapPieces x = Check.of("rule 7 from 3 4 to 5 6 with 7 8;rule 99 from 5 5 to 7 9;rule 1 from 6 6 to 8 8 both 3 9;");
        int[][] due = {{7, 3, 4, 5, 6, 7, 8, 1}, {99, 5, 5, 7, 9, 0, 0, 0}, {1, 6, 6, 8, 8, 3, 9, 2}};
        for (int rule = 0; rule < 3; rule++) {
            for (int what = 0; what < 8; what++) {
                CHECK.due("rule(" + rule + ", " + what + ")", x.rule(rule, what), due[rule][what]);
            }
        }
        x.tune(1, 98);
        CHECK.due("tuned", x.rule(1, 0), 98);
        CHECK.isThrown("what 8", Check.NO_SUCH, () -> x.rule(0, 8));
        CHECK.isThrown("what -1", Check.NO_SUCH, () -> x.rule(0, -1));
        CHECK.isThrown("rule 3", Check.NO_SUCH, () -> x.rule(3, 0));
        CHECK.isThrown("rule -1", Check.NO_SUCH, () -> x.rule(-1, 0));
    }

    public static void main(String[] args) {
        sending();
        hubs();
        cases();
        spots();
        chargesRoundZero();
        scaling();
        rules();
        CHECK.end();
    }
}
