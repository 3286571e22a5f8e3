import java.util.Random;

/** Runs of calls made by seeds, each call's answer compared with the reference's. */
public final class RandomRunsTest {
    private static final int RUNS = 900;
    // an object is promised for 512 calls alone; a round takes fewer than 70, and the end 17
    private static final int MOST_CALLS = 512 - 70 - 17;

    private final Random random;
    private final Texts texts;
    private final MapPieces real = new MapPieces();
    private final Reference wanted = new Reference();
    private final Check check;
    private final StringBuilder history = new StringBuilder();
    private boolean failed = false;
    private int calls = 0;

    private RandomRunsTest(long seed, Check check) {
        random = new Random(seed);
        texts = new Texts(random);
        this.check = check;
    }

    private int below(int n) {
        return random.nextInt(n);
    }

    /** Mostly 0 to n-1, sometimes just outside or far away. */
    private int around(int n) {
        if (below(12) > 0 && n > 0) {
            return below(n);
        }
        return below(4) == 0 ? random.nextInt() : below(n + 4) - 2;
    }

    private void compare(String name, int... args) {
        calls++;
        String got = Calls.answer(real, name, args);
        String want = Calls.answer(() -> wanted.on(name, args));
        String shown = name + java.util.Arrays.toString(args);
        history.append("  ").append(shown).append(" -> ").append(want).append('\n');
        check.due(shown, got.equals(want) ? 1 : 0, 1);
        if (!got.equals(want) && !failed) {
            failed = true;
            System.out.println(history + "  BUT GOT " + got);
        }
    }

    private void putText(String text, boolean isAtlas) {
        history.append("  text ").append(text.replace('\n', '~')).append('\n');
        for (int at = 0; at < text.length(); at += 20) {
            compare("feed", Calls.numbersOf(text, at));
        }
        int n = below(10) == 0 ? text.length() + below(30) - 10 : text.length();
        compare(isAtlas ? "atlas" : "plan", n);
        compare("fault");
        compare("count", 13);
    }

    private int colouring(int piece) {
        int many = 30;
        if (piece >= 0 && piece < wanted.count(0)) {
            many = wanted.piece(piece, 5);
        }
        return around(many);
    }

    private int rowOf(int hub) {
        int row = 0;
        for (int i = 0; i < hub && i < 9; i++) {
            row = row * 10 + (below(30) == 0 ? below(10) : 5 + below(below(3) == 0 ? 5 : 3));
        }
        return row;
    }

    private void aboutPieces() {
        int piece = around(wanted.count(0));
        int colouring = colouring(piece);
        switch (below(10)) {
            case 0: compare("piece", piece, around(13)); break;
            case 1: compare("vertex", piece, around(14)); break;
            case 2: compare("colour", piece, colouring, around(7)); break;
            case 3: compare("named", piece, namedNumber()); break;
            case 4: compare("level", piece, colouring); break;
            case 5: compare("extend", piece, colouring, around(5)); break;
            case 6: compare("runs", piece, colouring, around(3), around(2)); break;
            case 7: compare("switched", piece, colouring, around(3), around(below(2) == 0 ? 64 : 4)); break;
            case 8: compare("set", piece, around(3), around(3)); break;
            default: compare("count", around(17)); break;
        }
    }

    private int namedNumber() {
        if (below(10) == 0) {
            return around(9999999);
        }
        int number = 0;
        int last = -1;
        for (int i = 5 + below(3); i > 0; i--) {
            int c = below(4);
            if (c == last) {
                c = below(4);
            }
            last = c;
            number = 10 * number + c;
        }
        return number;
    }

    private void aboutCharges() {
        int hub = below(15) == 0 ? around(10) : 5 + below(3);
        switch (below(6)) {
            case 0: compare("sends", 3 + around(7), 3 + around(7), 3 + around(7), 3 + around(7)); break;
            case 1: compare("hub", hub, below(12) == 0 ? around(9999999) : rowOf(hub), around(2)); break;
            case 2: compare("cases", hub, around(6)); break;
            case 3: compare("spot", around(wanted.count(2)), around(7)); break;
            case 4: compare("scaled", around(wanted.count(2)), below(2) == 0 ? around(90) : random.nextInt()); break;
            default: compare("rule", around(wanted.count(1)), around(8)); break;
        }
    }

    private void aboutMap() {
        int spot = around(wanted.count(2));
        switch (below(14)) {
            case 0: case 1: case 2: case 3: compare("paint", spot, around(4)); break;
            case 4: compare("wash", spot); break;
            case 5: case 6: compare("swap", spot, around(4)); break;
            case 7: compare("tune", around(wanted.count(1)), 1 + around(99)); break;
            case 8: compare("undo"); break;
            case 9: compare("chain", spot, around(4)); break;
            case 10: compare("solve", spot); break;
            case 11: compare("ways"); break;
            case 12: compare("free", spot, around(2)); break;
            default: compare("play", around(2)); break;
        }
    }

    private void paintMuch() {
        for (int spot = 0; spot < wanted.count(2); spot++) {
            if (below(4) > 0) {
                compare("paint", spot, below(4));
                compare("paint", spot, below(4));
            }
        }
        for (int spot = 0; spot < wanted.count(2); spot++) {
            if (wanted.spot(spot, 2) == -1) {
                compare("free", spot, 0);
                compare("free", spot, 1);
            }
        }
        compare("play", 0);
        compare("play", 1);
        compare("ways");
    }

    private void aboutNotes() {
        int spots = wanted.count(2);
        int spot = around(spots);
        switch (below(10)) {
            case 0:
                compare("note", spot, around(2000) - 1000);
                break;
            case 1: case 2:
                if (spots > 0) {
                    noteBySomeAmount(below(spots));
                }
                break;
            case 3: if (below(3) == 0) { compare("forget"); } break;
            case 4: case 5: compare("meant", around(3)); break;
            case 6: compare("years", random.nextInt(), around(101), around(3)); break;
            case 7: if (below(3) == 0) { compare("image"); } break;
            case 8: if (below(2) == 0) { compare("restore"); } break;
            default: compare("planned", around(4)); break;
        }
    }

    /** Notes what a spot's charge is by another amount, so that something is meant. */
    private void noteBySomeAmount(int spot) {
        int rules = wanted.count(1);
        if (rules > 0 && below(2) == 0) {
            compare("tune", below(rules), 1 + below(99));
            compare("note", spot, wanted.spot(spot, 5));
            compare("undo");
        } else {
            compare("note", spot, wanted.spot(spot, 5));
        }
        compare("meant", 0);
        compare("meant", 1);
        compare("meant", 2);
    }

    private void run() {
        putText(texts.atlas(), true);
        while (calls < MOST_CALLS) {
            int kind = below(100);
            if (kind < 2) {
                putText(texts.atlas(), true);
            } else if (kind < 8) {
                putText(texts.plan(wanted.count(2)), false);
            } else if (kind < 10) {
                paintMuch();
            } else if (kind < 30) {
                aboutPieces();
            } else if (kind < 45) {
                aboutCharges();
            } else if (kind < 80) {
                aboutMap();
            } else {
                aboutNotes();
            }
        }
        for (int what = 0; what < 17; what++) {
            compare("count", what);
        }
    }

    public static void main(String[] args) {
        int runs = args.length > 0 ? Integer.parseInt(args[0]) : RUNS;
        long first = args.length > 1 ? Long.parseLong(args[1]) : 1;
        Check check = new Check("RandomRunsTest");
        for (long seed = first; seed < first + runs; seed++) {
            RandomRunsTest one = new RandomRunsTest(seed, check);
            one.run();
            if (one.failed) {
                System.out.println("seed " + seed);
                break;
            }
        }
        check.end();
    }
}
