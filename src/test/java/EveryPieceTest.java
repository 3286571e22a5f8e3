import java.util.ArrayList;
import java.util.List;

/** Every PIECE that a text can tell, with and without JOINS, compared with the reference. */
public final class EveryPieceTest {
    private static final Check CHECK = new Check("EveryPieceTest");
    // a new object is taken before one has had 512 calls
    private static final int MOST_CALLS = 480;

    private final String text;
    private final Reference wanted = new Reference();
    private MapPieces real;
    private int calls = MOST_CALLS;

    private EveryPieceTest(String text) {
        this.text = text;
        for (int at = 0; at < text.length(); at += 20) {
            wanted.feed(Calls.numbersOf(text, at));
        }
        CHECK.due("a text of the reference: " + text, wanted.atlas(text.length()), 0);
    }

    private static void texts(String ahead, int spokesLeft, List<String> into) {
        if (Check.atlas(new MapPieces(), ahead + ";") == 0) {
            into.add(ahead + ";");
        }
        for (int spoke = 5; spoke <= 9 && spokesLeft > 0; spoke++) {
            texts(ahead + " " + spoke, spokesLeft - 1, into);
        }
    }

    private void compare(String name, int... args) {
        if (calls >= MOST_CALLS) {
            real = Check.of(text);
            calls = 10;
        }
        calls++;
        CHECK.same(text + " " + name + java.util.Arrays.toString(args), Calls.answer(real, name, args),
            Calls.answer(() -> wanted.on(name, args)));
    }

    private void whole() {
        told();
        for (int vertex = 0; vertex < wanted.piece(0, 3); vertex++) {
            compare("vertex", 0, vertex);
        }
        int places = wanted.piece(0, 2);
        for (int i = 0; i < wanted.piece(0, 5); i++) {
            compare("level", 0, i);
            int digits = 0;
            for (int place = 0; place < places; place++) {
                compare("colour", 0, i, place);
                digits = 10 * digits + (wanted.colour(0, i, place) + i) % 4;
            }
            compare("named", 0, digits);
            for (int inner = 0; inner <= wanted.piece(0, 1); inner++) {
                compare("extend", 0, i, inner);
            }
        }
    }

    private void told() {
        for (int what = 0; what <= 12; what++) {
            compare("piece", 0, what);
        }
        for (int what = 0; what <= 2; what++) {
            for (int word = 0; word <= 2; word++) {
                compare("set", 0, what, word);
            }
        }
    }

    private void everySwitch() {
        for (int i = 0; i < wanted.piece(0, 5); i++) {
            for (int pairing = 0; pairing < 3; pairing++) {
                compare("runs", 0, i, pairing, 0);
                compare("runs", 0, i, pairing, 1);
                for (int bits = 0; bits < 1 << wanted.runs(0, i, pairing, 0); bits++) {
                    compare("switched", 0, i, pairing, bits);
                }
            }
        }
    }

    /** The text with each edge as a JOIN alone, and with some of two, three and four. */
    private static void joined(String text) {
        MapPieces x = Check.of(text);
        List<String> joins = new ArrayList<>();
        for (int inner = x.piece(0, 2); inner < x.piece(0, 3); inner++) {
            int near = x.vertex(0, inner);
            for (int vertex = 0; vertex < inner; vertex++) {
                if ((near >> vertex & 1) == 1) {
                    joins.add("join " + vertex + " " + inner + ";");
                }
            }
        }
        for (int i = 0; i < joins.size(); i++) {
            new EveryPieceTest(text + joins.get(i)).told();
            String more = text;
            for (int k = 0; k < 2 + i % 3; k++) {
                more += joins.get((i + k * 5) % joins.size());
            }
            if (Check.atlas(new MapPieces(), more) == 0) {
                new EveryPieceTest(more).told();
            }
        }
    }

    public static void main(String[] args) {
        List<String> texts = new ArrayList<>();
        for (int hub = 5; hub <= 7; hub++) {
            texts("piece " + hub, hub, texts);
        }
        CHECK.due("how many PIECES there can be", texts.size(), 51);
        for (String text : texts) {
            new EveryPieceTest(text).whole();
            joined(text);
        }
        for (int hub = 5; hub <= 7; hub++) {
            new EveryPieceTest("piece " + hub + ";").everySwitch();
        }
        CHECK.end();
    }
}
