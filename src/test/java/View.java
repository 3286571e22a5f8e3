import java.util.ArrayList;
import java.util.List;

/** Calls that together tell all that an object knows, those that change something last; fewer than 300 for small atlases. */
final class View {
    private View() {
    }

    static List<String> rows(int pieces, int rules, int spots) {
        List<String> rows = new ArrayList<>();
        rows.add("fault");
        all(rows, "count", 17);
        all(rows, "planned", 4);
        all(rows, "meant", 3);
        all(rows, "play", 2);
        rows.add("ways");
        rows.add("cases 5 1");
        rows.add("hub 5 55555 0");
        for (int piece = 0; piece < pieces; piece++) {
            all(rows, "piece " + piece, 13);
        }
        for (int rule = 0; rule < rules; rule++) {
            all(rows, "rule " + rule, 8);
        }
        state(rows, rules, spots);
        undone(rows, rules, spots, 6);
        rows.add("restore");
        state(rows, rules, spots);
        undone(rows, rules, spots, 4);
        // what the tape has, and where a text of it fails
        rows.add("atlas 20");
        rows.add("fault");
        rows.add("count 0");
        return rows;
    }

    private static void all(List<String> rows, String call, int many) {
        for (int what = 0; what < many; what++) {
            rows.add(call + " " + what);
        }
    }

    private static void state(List<String> rows, int rules, int spots) {
        for (int rule = 0; rule < rules; rule++) {
            rows.add("rule " + rule + " 0");
        }
        for (int spot = 0; spot < spots; spot++) {
            rows.add("spot " + spot + " 2");
        }
        rows.add("count 11");
        rows.add("count 12");
        all(rows, "meant", 3);
    }

    private static void undone(List<String> rows, int rules, int spots, int acts) {
        for (int i = 0; i < acts; i++) {
            rows.add("undo");
            for (int rule = 0; rule < rules; rule++) {
                rows.add("rule " + rule + " 0");
            }
            for (int spot = 0; spot < spots; spot++) {
                rows.add("spot " + spot + " 2");
            }
        }
    }
}
