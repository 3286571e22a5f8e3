/** Promises 21 to 30: acts, chains, and what is found out about painting. */
public final class MapTest {
    private static final Check CHECK = new Check("MapTest");
    private static final String T = Texts.TETRAHEDRON;
    // spots 0 and 1 over a row of four round: 2, 3, 4, 5
    private static final String OCTAHEDRON =
        "spot 2 3 4 5;spot 5 4 3 2;spot 0 5 1 3;spot 0 2 1 4;spot 0 3 1 5;spot 0 4 1 2;";

    private static void painting() {
        MapPieces x = Check.of(T);
        CHECK.due("paint", x.paint(0, 0), 1);
        CHECK.due("it is painted", x.paint(0, 1), -1);
        CHECK.due("not free", x.paint(1, 0), -1);
        CHECK.due("no colour 4", x.paint(1, 4), -1);
        CHECK.due("no colour -1", x.paint(1, -1), -1);
        CHECK.due("far colour", x.paint(1, Integer.MIN_VALUE), -1);
        CHECK.due("nothing done", x.count(3), 1);
        CHECK.due("acts", x.count(11), 1);
        CHECK.due("refused", x.count(15), 5);
        CHECK.due("paint", x.paint(3, 3), 2);
        CHECK.isThrown("no spot 4", Check.NO_SUCH, () -> x.paint(4, 0));
        CHECK.isThrown("no spot -1", Check.NO_SUCH, () -> x.paint(-1, 9));
        CHECK.due("not refused, thrown", x.count(15), 5);
    }

    private static void washing() {
        MapPieces x = Check.of(T);
        x.paint(2, 3);
        CHECK.due("wash", x.wash(2), 3);
        CHECK.due("unpainted", x.spot(2, 2), -1);
        CHECK.due("wash again", x.wash(2), -1);
        CHECK.due("refused", x.count(15), 1);
        CHECK.due("acts", x.count(11), 2);
        CHECK.due("undo", x.undo(), 1);
        CHECK.due("painted again", x.spot(2, 2), 3);
        CHECK.isThrown("no spot 4", Check.NO_SUCH, () -> x.wash(4));
        CHECK.isThrown("no spot -1", Check.NO_SUCH, () -> x.wash(-1));
    }

    /** 0 has 0, 2 has 1, 3 has 2, 4 has 1, 5 is unpainted, 1 has 0. */
    private static MapPieces painted() {
        MapPieces x = Check.of("rule 5 from 4 4 to 4 4;" + OCTAHEDRON);
        x.paint(0, 0);
        x.paint(1, 0);
        x.paint(2, 1);
        x.paint(3, 2);
        x.paint(4, 1);
        return x;
    }

    private static void chains() {
        MapPieces x = painted();
        CHECK.due("0 and 1", x.chain(0, 1), 0b010111);
        CHECK.due("0 and 2", x.chain(0, 2), 0b001011);
        CHECK.due("0 and 3", x.chain(0, 3), 0b000001);
        CHECK.due("1 and 2", x.chain(2, 2), 0b011100);
        CHECK.due("from the other end", x.chain(4, 2), 0b011100);
        CHECK.due("1 and 3", x.chain(4, 3), 0b010000);
        CHECK.due("its own colour", x.chain(0, 0), 0);
        CHECK.due("unpainted", x.chain(5, 0), 0);
        CHECK.isThrown("no colour 4", Check.ILLEGAL, () -> x.chain(0, 4));
        CHECK.isThrown("no colour -1", Check.ILLEGAL, () -> x.chain(5, -1));
        CHECK.isThrown("no spot, ahead", Check.NO_SUCH, () -> x.chain(6, 4));
        CHECK.isThrown("no spot", Check.NO_SUCH, () -> x.chain(-1, 0));
        CHECK.due("nothing refused", x.count(15), 0);
    }

    private static void swapping() {
        MapPieces x = painted();
        CHECK.due("swap", x.swap(2, 2), 3);
        CHECK.due("2", x.spot(2, 2), 2);
        CHECK.due("3", x.spot(3, 2), 1);
        CHECK.due("4", x.spot(4, 2), 2);
        CHECK.due("0 stays", x.spot(0, 2), 0);
        CHECK.due("swap alone", x.swap(1, 3), 1);
        CHECK.due("1", x.spot(1, 2), 3);
        CHECK.due("acts", x.count(11), 7);
        CHECK.due("unpainted", x.swap(5, 0), -1);
        CHECK.due("its own", x.swap(1, 3), -1);
        CHECK.due("no colour 4", x.swap(1, 4), -1);
        CHECK.due("no colour -1", x.swap(1, -1), -1);
        CHECK.due("refused", x.count(15), 4);
        CHECK.due("acts stay", x.count(11), 7);
        CHECK.due("undo", x.undo(), 6);
        CHECK.due("1 again", x.spot(1, 2), 0);
        CHECK.due("undo", x.undo(), 5);
        CHECK.due("2 again", x.spot(2, 2), 1);
        CHECK.due("3 again", x.spot(3, 2), 2);
        CHECK.due("4 again", x.spot(4, 2), 1);
        CHECK.isThrown("no spot 6", Check.NO_SUCH, () -> x.swap(6, 0));
        CHECK.isThrown("no spot -1", Check.NO_SUCH, () -> x.swap(-1, 0));
    }

    private static void tuning() {
        MapPieces x = painted();
        CHECK.due("tune", x.tune(0, 99), 5);
        CHECK.due("tune", x.tune(0, 1), 99);
        CHECK.due("it is so", x.tune(0, 1), -1);
        CHECK.due("0", x.tune(0, 0), -1);
        CHECK.due("100", x.tune(0, 100), -1);
        CHECK.due("below", x.tune(0, Integer.MIN_VALUE), -1);
        CHECK.due("refused", x.count(15), 4);
        CHECK.due("amount", x.rule(0, 0), 1);
        CHECK.due("undo", x.undo(), 6);
        CHECK.due("amount", x.rule(0, 0), 99);
        CHECK.due("undo", x.undo(), 5);
        CHECK.due("amount", x.rule(0, 0), 5);
        CHECK.isThrown("no rule 1", Check.NO_SUCH, () -> x.tune(1, 0));
        CHECK.isThrown("no rule -1", Check.NO_SUCH, () -> x.tune(-1, 5));
        CHECK.due("not refused, thrown", x.count(15), 4);
    }

    private static void undoing() {
        MapPieces x = Check.of("rule 1 from 3 3 to 3 3;" + T);
        CHECK.due("none", x.undo(), -1);
        x.paint(0, 0);
        for (int i = 2; i <= 30; i++) {
            x.tune(0, i);
            CHECK.due("acts " + i, x.count(11), i);
        }
        x.tune(0, 31);
        CHECK.due("30 are kept", x.count(11), 30);
        for (int i = 29; i >= 0; i--) {
            CHECK.due("undo", x.undo(), i);
            CHECK.due("amount", x.rule(0, 0), i + 1);
        }
        CHECK.due("the painting was the oldest", x.spot(0, 2), 0);
        CHECK.due("none left", x.undo(), -1);
        CHECK.due("undo is never refused", x.count(15), 0);
    }

    private static long stateOf(MapPieces x) {
        long state = x.rule(0, 0) * 100 + x.rule(1, 0);
        for (int spot = 0; spot < 6; spot++) {
            state = state * 5 + x.spot(spot, 2) + 1;
        }
        return state;
    }

    /** A new object on which so many acts were done, of all kinds and at all places. */
    private static MapPieces behind(int acts) {
        MapPieces x = Check.of("rule 50 from 4 4 to 4 4;rule 50 from 5 5 to 5 5;" + OCTAHEDRON);
        int done = 0;
        for (int i = 0; done < acts; i++) {
            int spot = i * 5 % 6;
            int colour = i * 7 % 4;
            int answer = i % 7 < 3 ? x.paint(spot, colour) : i % 7 == 3 ? x.wash(spot)
                : i % 7 < 6 ? x.swap(spot, colour) : x.tune(i % 2, 1 + i % 99);
            done += answer == -1 ? 0 : 1;
        }
        return x;
    }

    /** More acts than are kept: the latest 30 are undone one by one. */
    private static void undoingAllKinds() {
        int acts = 79;
        for (int undone = 0; undone <= 30; undone++) {
            MapPieces x = behind(acts);
            CHECK.due("30 are kept", x.count(11), 30);
            for (int left = 29; left >= 30 - undone; left--) {
                CHECK.due("undo", x.undo(), left);
            }
            CHECK.due("the state with " + undone + " undone", stateOf(x), stateOf(behind(acts - undone)));
            if (undone == 30) {
                CHECK.due("none left", x.undo(), -1);
                CHECK.due("the oldest that is kept", stateOf(x), stateOf(behind(49)));
            }
        }
    }

    private static void solving() {
        MapPieces x = painted();
        CHECK.due("the first way", x.solve(5), 2);
        CHECK.due("a painted one", x.solve(3), 2);
        CHECK.due("ways", x.ways(), 2);
        x.paint(5, 3);
        CHECK.due("all painted", x.ways(), 1);
        CHECK.due("all painted", x.solve(5), 3);
        CHECK.due("nothing changes", x.count(11), 6);
        x.wash(5);
        x.swap(1, 3);
        CHECK.due("one way", x.ways(), 1);
        MapPieces y = Check.of(OCTAHEDRON);
        y.paint(2, 0);
        y.paint(3, 1);
        y.paint(4, 2);
        y.paint(5, 3);
        CHECK.due("no way", y.ways(), 0);
        for (int spot = 0; spot < 6; spot++) {
            CHECK.due("no way", y.solve(spot), -1);
        }
        MapPieces z = Check.of(OCTAHEDRON);
        CHECK.due("an octahedron's ways", z.ways(), 96);
        int[] due = {0, 0, 1, 2, 1, 2};
        for (int spot = 0; spot < 6; spot++) {
            CHECK.due("the least way", z.solve(spot), due[spot]);
        }
        CHECK.due("unpainted still", z.count(3), 0);
        CHECK.due("an icosahedron's ways", Check.of(Texts.ICOSAHEDRON).ways(), 240);
        CHECK.due("two maps", Check.of(T + "spot 5 6 7;spot 4 7 6;spot 4 5 7;spot 4 6 5;").ways(), 576);
        CHECK.isThrown("no spot 6", Check.NO_SUCH, () -> z.solve(6));
        CHECK.isThrown("no spot -1", Check.NO_SUCH, () -> z.solve(-1));
    }

    private static void freeing() {
        MapPieces x = Check.of(OCTAHEDRON);
        CHECK.due("free already", x.free(0, 0), 0);
        CHECK.due("no first one", x.free(0, 1), -1);
        x.paint(2, 0);
        x.paint(3, 1);
        x.paint(4, 2);
        x.paint(5, 3);
        // 0 and 2 don't hang together, so spot 2 can have 2
        CHECK.due("one swap", x.free(0, 0), 1);
        CHECK.due("spot 2 to 2", x.free(0, 1), 22);
        CHECK.due("nothing changes", x.spot(2, 2), 0);
        CHECK.due("painted", x.free(2, 0), -1);
        CHECK.due("painted", x.free(2, 1), -1);
        CHECK.isThrown("what 2", Check.NO_SUCH, () -> x.free(0, 2));
        CHECK.isThrown("what -1", Check.NO_SUCH, () -> x.free(0, -1));
        CHECK.isThrown("no spot 6", Check.NO_SUCH, () -> x.free(6, 0));
        CHECK.isThrown("no spot -1", Check.NO_SUCH, () -> x.free(-1, 0));
    }

    private static void freeingFar() {
        // round spot 0 all four colours stand; what frees it is sought here by swaps that are undone
        MapPieces x = Check.of(Texts.ICOSAHEDRON);
        int[] colours = {-1, 0, 1, 0, 2, 3, 1, 2, 3, 1, 0, -1};
        for (int spot = 0; spot < 12; spot++) {
            if (colours[spot] >= 0) {
                CHECK.due("painted " + spot, x.paint(spot, colours[spot]) >= 0 ? 1 : 0, 1);
            }
        }
        CHECK.due("spot 0 is not free", x.spot(0, 3), 0);
        int fewest = -1;
        int first = -1;
        for (int a = 0; a < 48 && fewest != 1; a++) {
            if (x.swap(a / 4, a % 4) >= 0) {
                boolean one = x.spot(0, 3) != 0;
                boolean two = false;
                for (int b = 0; b < 48 && !two; b++) {
                    if (x.swap(b / 4, b % 4) >= 0) {
                        two = x.spot(0, 3) != 0;
                        x.undo();
                    }
                }
                x.undo();
                if (one) {
                    fewest = 1;
                    first = a / 4 * 10 + a % 4;
                } else if (two && fewest < 0) {
                    fewest = 2;
                    first = a / 4 * 10 + a % 4;
                }
            }
        }
        CHECK.due("fewest", x.free(0, 0), fewest);
        CHECK.due("first", x.free(0, 1), first);
    }

    private static void playing() {
        MapPieces x = Check.of(OCTAHEDRON);
        CHECK.due("six unpainted", x.play(0), -1);
        CHECK.due("six unpainted", x.play(1), -1);
        x.paint(0, 0);
        CHECK.due("five unpainted", x.play(0), -1);
        CHECK.due("five unpainted", x.play(1), -1);
        x.paint(1, 0);
        // three colours are left, and each of the row of four round has but two beside it in the row
        CHECK.due("four unpainted", x.play(0), 1);
        CHECK.due("any move", x.play(1), 21);
        x.undo();
        x.paint(1, 1);
        // two colours are left: the second one paints the spot opposite the first one's unlike it
        CHECK.due("four unpainted", x.play(0), 2);
        CHECK.due("no move", x.play(1), -1);
        x.paint(2, 2);
        CHECK.due("three unpainted", x.play(0), 1);
        CHECK.due("3 has 3", x.play(1), 33);
        x.paint(4, 2);
        CHECK.due("two unpainted", x.play(0), 1);
        CHECK.due("3 has 3", x.play(1), 33);
        x.paint(3, 3);
        CHECK.due("one unpainted", x.play(0), 1);
        CHECK.due("5 has 3", x.play(1), 53);
        x.paint(5, 3);
        CHECK.due("all painted", x.play(0), 1);
        CHECK.due("no move", x.play(1), -1);
        CHECK.isThrown("what 2", Check.NO_SUCH, () -> x.play(2));
        CHECK.isThrown("what -1", Check.NO_SUCH, () -> x.play(-1));
        CHECK.due("nothing changes", x.count(11), 6);
        MapPieces y = Check.of(OCTAHEDRON);
        y.paint(2, 0);
        y.paint(3, 1);
        y.paint(4, 2);
        y.paint(5, 3);
        CHECK.due("it can't go on", y.play(0), 2);
        CHECK.due("no move", y.play(1), -1);
    }

    public static void main(String[] args) {
        painting();
        washing();
        chains();
        swapping();
        tuning();
        undoing();
        undoingAllKinds();
        solving();
        freeing();
        freeingFar();
        playing();
        CHECK.end();
    }
}
