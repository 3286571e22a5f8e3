import java.util.Arrays;
import java.util.Random;

/** Each call with numbers round every bound there is, and at the ends of an int, compared with the reference's answer. */
public final class ExtremesTest {
    private static final Check CHECK = new Check("ExtremesTest");
    private static final int[] NUMBERS = {Integer.MIN_VALUE, Integer.MIN_VALUE + 1, -1000, -999, -1, 0, 1, 2, 3, 4, 5, 6, 7, 8, 9,
        10, 11, 12, 13, 30, 31, 32, 33, 63, 64, 90, 91, 99, 100, 101, 700, 701, 999, 1000, 55555, 77777, 99999, 100000, 777777,
        7777777, 1 << 30, Integer.MAX_VALUE - 1, Integer.MAX_VALUE};
    private static final String CALLS = "atlas/1 plan/1 count/1 piece/2 vertex/2 colour/3 named/2 level/2 extend/3 runs/4 "
        + "switched/4 set/3 sends/4 hub/3 cases/2 spot/2 scaled/2 rule/2 paint/2 wash/1 swap/2 tune/2 chain/2 solve/1 free/2 "
        + "play/1 planned/1 note/2 meant/1 years/3";
    private static final String TEXT = "piece 7 5 5 5 5 5 5 5;piece 6 5 5;join 6 7;piece 5 5 5 5;join 6 8;join 0 6;piece 5;"
        + "rule 7 from 5 5 to 5 9;rule 2 from 3 9 to 5 6 both 5 6;" + Texts.ICOSAHEDRON;
    private static final int MOST_OF_A_CALL = 3000;
    // an object is promised for 512 calls alone; a new one has some 30 of them behind it
    private static final int CALLS_OF_AN_OBJECT = 400;

    private final Random random = new Random(5);
    private MapPieces real = new MapPieces();
    private Reference wanted = new Reference();

    private void compare(String name, int... args) {
        String got = Calls.answer(real, name, args);
        String want = Calls.answer(() -> wanted.on(name, args));
        CHECK.same(name + Arrays.toString(args), got, want);
    }

    /** 0: a new object, 1: one with an atlas, 2: one whose map is painted in part, too. */
    private void begin(int state) {
        real = new MapPieces();
        wanted = new Reference();
        if (state > 0) {
            for (int at = 0; at < TEXT.length(); at += 20) {
                compare("feed", Calls.numbersOf(TEXT, at));
            }
            compare("atlas", TEXT.length());
        }
        for (int spot = 0; state > 1 && spot < 8; spot++) {
            compare("paint", spot, spot % 4);
        }
    }

    /** All rows of NUMBERS, if there are few enough; else rows by chance, many of them near 0. */
    private int[] args(int many, int turn, boolean isAll) {
        int[] args = new int[many];
        int left = turn;
        for (int i = 0; i < many; i++) {
            boolean isNear = !isAll && random.nextInt(3) > 0;
            args[i] = isNear ? random.nextInt(8) : NUMBERS[isAll ? left % NUMBERS.length : random.nextInt(NUMBERS.length)];
            left /= NUMBERS.length;
        }
        return args;
    }

    private void tryCall(int state, String name, int many) {
        double rows = Math.pow(NUMBERS.length, many);
        int turns = (int) Math.min(rows, MOST_OF_A_CALL);
        for (int turn = 0; turn < turns; turn++) {
            if (turn % CALLS_OF_AN_OBJECT == 0) {
                begin(state);
            }
            compare(name, args(many, turn, rows <= MOST_OF_A_CALL));
        }
    }

    public static void main(String[] args) {
        ExtremesTest test = new ExtremesTest();
        for (int state = 0; state <= 2; state++) {
            for (String call : CALLS.split(" ")) {
                String[] parts = call.split("/");
                test.tryCall(state, parts[0], Integer.parseInt(parts[1]));
            }
        }
        CHECK.end();
    }
}
