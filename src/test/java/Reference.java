import java.util.ArrayList;
import java.util.Arrays;
import java.util.BitSet;
import java.util.HashMap;
import java.util.LinkedHashSet;
import java.util.List;
import java.util.Map;
import java.util.NoSuchElementException;
import java.util.Set;
import java.util.TreeSet;

/**
 * The document once more, word by word and without any care for speed, to be compared with MapPieces.
 * It shares no code and, where it can, no idea with that class.
 */
final class Reference {
    static final int NONE = -1;

    // ---- texts ----

    record Token(int start, String text) {
        boolean isNumber() {
            return !text.isEmpty() && Character.isDigit(text.charAt(0));
        }

        boolean isLong() {
            return text.length() > 4;
        }

        int value() {
            return isLong() ? 99999 : Integer.parseInt(text);
        }
    }

    static final class Fault extends RuntimeException {
        private static final long serialVersionUID = 1L;
        final int number;
        final int place;

        Fault(int number, int place) {
            this.number = number;
            this.place = place;
        }
    }

    static List<Token> tokensOf(String text) {
        List<Token> list = new ArrayList<>();
        java.util.regex.Matcher matcher =
            java.util.regex.Pattern.compile("[a-z]+|[0-9]+|[^ \n]", java.util.regex.Pattern.DOTALL).matcher(text);
        while (matcher.find()) {
            list.add(new Token(matcher.start(), matcher.group()));
        }
        list.add(new Token(text.length(), ""));
        return list;
    }

    // ---- an atlas ----

    static final class RuleTold {
        int fromLow, fromHigh, toLow, toHigh, low, high, kind;

        boolean holds(int a, int b, int x, int y) {
            if (!(fromLow <= a && a <= fromHigh && toLow <= b && b <= toHigh)) {
                return false;
            }
            int beside = (low <= x && x <= high ? 1 : 0) + (low <= y && y <= high ? 1 : 0);
            return beside >= kind;
        }
    }

    static final class PieceTold {
        int hub;
        List<Integer> spokes = new ArrayList<>();
        int ring;
        int vertices;
        Set<List<Integer>> edges = new LinkedHashSet<>();
        List<List<Integer>> joins = new ArrayList<>();
        List<Integer> levels;
        BitSet extending;
        BitSet joined;

        int degreeInside(int vertex) {
            int n = 0;
            for (List<Integer> e : edges) {
                n += e.contains(vertex) ? 1 : 0;
            }
            return n;
        }

        void edge(int a, int b) {
            edges.add(List.of(Math.min(a, b), Math.max(a, b)));
        }

        boolean hasEdge(int a, int b) {
            return edges.contains(List.of(Math.min(a, b), Math.max(a, b)));
        }

        /** First with inner vertices numbered from 100 on, then the ring. */
        int build() {
            int s = spokes.size();
            boolean wheel = s == hub;
            for (int i = 0; i < s; i++) {
                edge(100, 101 + i);
                if (i + 1 < s) {
                    edge(101 + i, 102 + i);
                }
            }
            if (wheel) {
                edge(100 + s, 101);
            }
            List<Integer> border = new ArrayList<>();
            for (int i = 0; i < s; i++) {
                border.add(101 + i);
            }
            if (!wheel) {
                border.add(100);
            }
            List<Integer> leaves = new ArrayList<>();
            int sum = 0;
            for (int b : border) {
                int degree = b == 100 ? hub : spokes.get(b - 101);
                leaves.add(degree - degreeInside(b));
                sum += degree - degreeInside(b);
            }
            ring = s == 0 ? hub : sum - border.size();
            if (ring > 7) {
                return ring;
            }
            Set<List<Integer>> renamed = new LinkedHashSet<>();
            for (List<Integer> e : edges) {
                renamed.add(List.of(e.get(0) - 100 + ring, e.get(1) - 100 + ring));
            }
            edges = renamed;
            for (int p = 0; p < ring; p++) {
                edge(p, (p + 1) % ring);
            }
            int place = 0;
            for (int i = 0; i < border.size(); i++) {
                for (int k = 0; k < leaves.get(i); k++) {
                    edge((place + k) % ring, border.get(i) - 100 + ring);
                }
                place += leaves.get(i) - 1;
            }
            vertices = ring + 1 + s;
            return ring;
        }

        /** The colours of all vertices in the first way, or null. */
        int[] extension(int[] ringColours, boolean byJoins) {
            int[] colours = Arrays.copyOf(ringColours, vertices);
            return tryFrom(ring, colours, byJoins) ? colours : null;
        }

        private boolean tryFrom(int vertex, int[] colours, boolean byJoins) {
            if (vertex == vertices) {
                return true;
            }
            for (int c = 0; c < 4; c++) {
                boolean fits = true;
                for (int u = 0; u < vertex && fits; u++) {
                    if (hasEdge(u, vertex)) {
                        boolean join = byJoins && (joins.contains(List.of(u, vertex)) || joins.contains(List.of(vertex, u)));
                        fits = join == (colours[u] == c);
                    }
                }
                if (fits) {
                    colours[vertex] = c;
                    if (tryFrom(vertex + 1, colours, byJoins)) {
                        return true;
                    }
                }
            }
            return false;
        }

        void study() {
            if (levels != null) {
                return;
            }
            RingTold r = RingTold.of(ring);
            levels = new ArrayList<>();
            extending = new BitSet();
            joined = new BitSet();
            for (int i = 0; i < r.colourings.size(); i++) {
                boolean does = extension(r.array(i), false) != null;
                levels.add(does ? 0 : NONE);
                extending.set(i, does);
                joined.set(i, !joins.isEmpty() && extension(r.array(i), true) != null);
            }
            for (int n = 1; n < 200; n++) {
                List<Integer> next = new ArrayList<>(levels);
                for (int i = 0; i < levels.size(); i++) {
                    if (levels.get(i) == NONE) {
                        for (int p = 0; p < 3; p++) {
                            boolean all = true;
                            for (BitSet ways : r.fences(i, p)) {
                                boolean some = false;
                                for (int k = ways.nextSetBit(0); k >= 0; k = ways.nextSetBit(k + 1)) {
                                    some |= levels.get(k) != NONE && levels.get(k) < n;
                                }
                                all &= some;
                            }
                            if (all) {
                                next.set(i, n);
                            }
                        }
                    }
                }
                levels = next;
            }
        }

        BitSet bad() {
            study();
            BitSet set = new BitSet();
            for (int i = 0; i < levels.size(); i++) {
                set.set(i, levels.get(i) == NONE);
            }
            return set;
        }

        boolean isD() {
            return bad().isEmpty();
        }

        boolean isC() {
            study();
            return !joins.isEmpty() && !joined.isEmpty() && !joined.intersects(bad());
        }

        boolean isHeld(int d, List<Integer> row) {
            if (d != hub) {
                return false;
            }
            List<Integer> twice = new ArrayList<>(row);
            twice.addAll(row);
            List<Integer> back = new ArrayList<>(twice);
            java.util.Collections.reverse(back);
            for (int i = 0; i < d; i++) {
                if (twice.subList(i, i + spokes.size()).equals(spokes) || back.subList(i, i + spokes.size()).equals(spokes)) {
                    return true;
                }
            }
            return false;
        }
    }

    // ---- colourings of a ring ----

    static final class RingTold {
        private static final Map<Integer, RingTold> ALL = new HashMap<>();
        final int n;
        final List<String> colourings = new ArrayList<>();
        private final Map<List<Integer>, List<BitSet>> known = new HashMap<>();

        private RingTold(int n) {
            this.n = n;
            for (int code = 0; code < 1 << 2 * n; code++) {
                StringBuilder b = new StringBuilder();
                for (int p = n - 1; p >= 0; p--) {
                    b.append(code >> 2 * p & 3);
                }
                String s = b.toString();
                if (isProper(s) && rename(s).equals(s)) {
                    colourings.add(s);
                }
            }
        }

        static RingTold of(int n) {
            return ALL.computeIfAbsent(n, RingTold::new);
        }

        boolean isProper(String s) {
            for (int p = 0; p < n; p++) {
                if (s.charAt(p) == s.charAt((p + 1) % n)) {
                    return false;
                }
            }
            return true;
        }

        static String rename(String s) {
            String order = "";
            StringBuilder b = new StringBuilder();
            for (char c : s.toCharArray()) {
                if (order.indexOf(c) < 0) {
                    order += c;
                }
                b.append(order.indexOf(c));
            }
            return b.toString();
        }

        int[] array(int i) {
            return colourings.get(i).chars().map(c -> c - '0').toArray();
        }

        static int partner(int colour, int pairing) {
            int with = pairing + 1;
            if (colour == 0) {
                return with;
            }
            if (colour == with) {
                return 0;
            }
            return 6 - with - colour;
        }

        static boolean ofZero(int colour, int pairing) {
            return colour == 0 || colour == pairing + 1;
        }

        /** Each run as its places. */
        List<List<Integer>> runs(int i, int pairing) {
            int[] c = array(i);
            List<List<Integer>> runs = new ArrayList<>();
            List<Integer> starts = new ArrayList<>();
            for (int p = 0; p < n; p++) {
                if (ofZero(c[p], pairing) != ofZero(c[(p + n - 1) % n], pairing)) {
                    starts.add(p);
                }
            }
            if (starts.isEmpty()) {
                List<Integer> one = new ArrayList<>();
                for (int p = 0; p < n; p++) {
                    one.add(p);
                }
                runs.add(one);
                return runs;
            }
            for (int k = 0; k < starts.size(); k++) {
                List<Integer> run = new ArrayList<>();
                int end = starts.get((k + 1) % starts.size());
                for (int p = starts.get(k); p != end; p = (p + 1) % n) {
                    run.add(p);
                }
                runs.add(run);
            }
            while (!runs.get(0).contains(0)) {
                runs.add(0, runs.remove(runs.size() - 1));
            }
            return runs;
        }

        int switched(int i, int pairing, Set<Integer> chosen) {
            int[] c = array(i);
            List<List<Integer>> runs = runs(i, pairing);
            for (int k : chosen) {
                for (int p : runs.get(k)) {
                    c[p] = partner(c[p], pairing);
                }
            }
            StringBuilder b = new StringBuilder();
            for (int x : c) {
                b.append(x);
            }
            return colourings.indexOf(rename(b.toString()));
        }

        private static void partitions(List<Integer> rest, List<List<Integer>> now, List<List<List<Integer>>> out) {
            if (rest.isEmpty()) {
                List<List<Integer>> copy = new ArrayList<>();
                now.forEach(g -> copy.add(new ArrayList<>(g)));
                out.add(copy);
                return;
            }
            int one = rest.get(0);
            List<Integer> others = rest.subList(1, rest.size());
            for (int g = 0; g < now.size(); g++) {
                now.get(g).add(one);
                partitions(others, now, out);
                now.get(g).remove(now.get(g).size() - 1);
            }
            now.add(new ArrayList<>(List.of(one)));
            partitions(others, now, out);
            now.remove(now.size() - 1);
        }

        private static boolean crosses(List<List<Integer>> groups) {
            for (List<Integer> g : groups) {
                for (List<Integer> h : groups) {
                    if (g != h) {
                        for (int a : g) {
                            for (int b : h) {
                                for (int c : g) {
                                    for (int d : h) {
                                        if (a < b && b < c && c < d) {
                                            return true;
                                        }
                                    }
                                }
                            }
                        }
                    }
                }
            }
            return false;
        }

        private static boolean parted(int x, int y, List<List<Integer>> groups) {
            for (List<Integer> g : groups) {
                boolean between = false;
                boolean outside = false;
                for (int a : g) {
                    if (x < a && a < y) {
                        between = true;
                    } else {
                        outside = true;
                    }
                }
                if (between && outside) {
                    return true;
                }
            }
            return false;
        }

        /** Of each way of fences, what colourings switches lead to. */
        List<BitSet> fences(int i, int pairing) {
            return known.computeIfAbsent(List.of(i, pairing), k -> findFences(i, pairing));
        }

        private List<BitSet> findFences(int i, int pairing) {
            int[] c = array(i);
            List<List<Integer>> runs = runs(i, pairing);
            List<Integer> zero = new ArrayList<>();
            List<Integer> other = new ArrayList<>();
            for (int k = 0; k < runs.size(); k++) {
                (ofZero(c[runs.get(k).get(0)], pairing) ? zero : other).add(k);
            }
            List<List<List<Integer>>> all = new ArrayList<>();
            partitions(zero, new ArrayList<>(), all);
            List<BitSet> result = new ArrayList<>();
            for (List<List<Integer>> groups : all) {
                if (crosses(groups)) {
                    continue;
                }
                List<List<Integer>> everyGroup = new ArrayList<>(groups);
                List<Integer> left = new ArrayList<>(other);
                while (!left.isEmpty()) {
                    int x = left.get(0);
                    List<Integer> group = new ArrayList<>();
                    for (int y : left) {
                        if (y == x || !parted(Math.min(x, y), Math.max(x, y), groups)) {
                            group.add(y);
                        }
                    }
                    left.removeAll(group);
                    everyGroup.add(group);
                }
                BitSet ways = new BitSet();
                for (int bits = 0; bits < 1 << everyGroup.size(); bits++) {
                    Set<Integer> chosen = new LinkedHashSet<>();
                    for (int g = 0; g < everyGroup.size(); g++) {
                        if ((bits >> g & 1) == 1) {
                            chosen.addAll(everyGroup.get(g));
                        }
                    }
                    ways.set(switched(i, pairing, chosen));
                }
                result.add(ways);
            }
            return result;
        }
    }

    // ---- reading ----

    static final class AtlasTold {
        List<PieceTold> pieces = new ArrayList<>();
        List<RuleTold> rules = new ArrayList<>();
        List<Integer> amounts = new ArrayList<>();
        List<List<Integer>> spots = new ArrayList<>();
        private List<Token> tokens;
        private int at = 0;

        Token next() {
            return tokens.get(Math.min(at++, tokens.size() - 1));
        }

        void word(String... words) {
            Token t = next();
            if (!Arrays.asList(words).contains(t.text())) {
                throw new Fault(1, t.start());
            }
        }

        int number(int low, int high) {
            Token t = next();
            return number(t, low, high);
        }

        int number(Token t, int low, int high) {
            if (!t.isNumber()) {
                throw new Fault(1, t.start());
            }
            if (t.isLong() || t.value() < low || t.value() > high) {
                throw new Fault(2, t.start());
            }
            return t.value();
        }

        void read(String text) {
            tokens = tokensOf(text);
            while (at < tokens.size() - 1) {
                Token t = next();
                switch (t.text()) {
                    case "piece" -> readPiece(t);
                    case "join" -> readJoin(t);
                    case "rule" -> readRule(t);
                    case "spot" -> readSpot(t);
                    default -> throw new Fault(1, t.start());
                }
            }
            for (int u = 0; u < spots.size(); u++) {
                List<Integer> row = spots.get(u);
                for (int i = 0; i < row.size(); i++) {
                    int v = row.get(i);
                    int w = row.get((i + 1) % row.size());
                    if (v >= spots.size()) {
                        throw new Fault(6, text.length());
                    }
                    int k = spots.get(v).indexOf(w);
                    if (k < 0 || spots.get(v).get((k + 1) % spots.get(v).size()) != u) {
                        throw new Fault(6, text.length());
                    }
                }
            }
        }

        private void readPiece(Token first) {
            if (pieces.size() == 4) {
                throw new Fault(2, first.start());
            }
            PieceTold p = new PieceTold();
            p.hub = number(5, 7);
            Token t = next();
            while (!t.text().equals(";")) {
                int spoke = number(t, 5, 9);
                if (p.spokes.size() == p.hub) {
                    throw new Fault(2, t.start());
                }
                p.spokes.add(spoke);
                t = next();
            }
            if (p.build() > 7) {
                throw new Fault(2, t.start());
            }
            pieces.add(p);
        }

        private void readJoin(Token first) {
            if (pieces.isEmpty()) {
                throw new Fault(3, first.start());
            }
            PieceTold p = pieces.get(pieces.size() - 1);
            if (p.joins.size() == 4) {
                throw new Fault(2, first.start());
            }
            int[] both = new int[2];
            for (int i = 0; i < 2; i++) {
                Token t = next();
                both[i] = number(t, 0, 9999);
                if (both[i] >= p.vertices) {
                    throw new Fault(3, t.start());
                }
                if (i == 1) {
                    boolean told = p.joins.contains(List.of(both[0], both[1])) || p.joins.contains(List.of(both[1], both[0]));
                    if (both[0] == both[1] || told || !p.hasEdge(both[0], both[1])
                            || Math.max(both[0], both[1]) < p.ring) {
                        throw new Fault(4, t.start());
                    }
                }
            }
            p.joins.add(List.of(both[0], both[1]));
            word(";");
        }

        private void readRule(Token first) {
            if (rules.size() == 6) {
                throw new Fault(2, first.start());
            }
            RuleTold r = new RuleTold();
            amounts.add(number(1, 99));
            word("from");
            r.fromLow = number(3, 9);
            r.fromHigh = number(r.fromLow, 9);
            word("to");
            r.toLow = number(3, 9);
            r.toHigh = number(r.toLow, 9);
            String kind = tokens.get(Math.min(at, tokens.size() - 1)).text();
            if (kind.equals("with") || kind.equals("both")) {
                next();
                r.kind = kind.equals("with") ? 1 : 2;
                r.low = number(3, 9);
                r.high = number(r.low, 9);
            }
            word(";");
            rules.add(r);
        }

        private void readSpot(Token first) {
            if (spots.size() == 12) {
                throw new Fault(2, first.start());
            }
            List<Integer> row = new ArrayList<>();
            row.add(neighbour(next(), row));
            Token t = next();
            while (!t.text().equals(";")) {
                row.add(neighbour(t, row));
                t = next();
            }
            if (row.size() < 3) {
                throw new Fault(2, t.start());
            }
            spots.add(row);
        }

        private int neighbour(Token t, List<Integer> row) {
            int n = number(t, 0, 11);
            if (row.size() == 9) {
                throw new Fault(2, t.start());
            }
            if (n == spots.size() || row.contains(n)) {
                throw new Fault(4, t.start());
            }
            return n;
        }
    }

    // ---- the object ----

    record Snapshot(List<Integer> colours, List<Integer> amounts) {
    }

    record Note(int spot, int charge) {
    }

    record Image(Snapshot now, List<Snapshot> acts, List<Note> notes) {
    }

    private String tape = "";
    private AtlasTold atlas = new AtlasTold();
    private int faultPlace = NONE;
    private Snapshot now = new Snapshot(new ArrayList<>(), new ArrayList<>());
    private List<Snapshot> acts = new ArrayList<>();
    private List<Note> notes = new ArrayList<>();
    private Image image = null;
    private final int[] status = new int[3];
    private int laid = 0;
    private int lastOff = NONE;
    private int[] told = {NONE, NONE, NONE, NONE};

    /** A call by its name, as Calls has it of MapPieces. */
    long on(String name, int... a) {
        switch (name) {
            case "atlas": return atlas(a[0]);
            case "fault": return fault();
            case "count": return count(a[0]);
            case "piece": return piece(a[0], a[1]);
            case "vertex": return vertex(a[0], a[1]);
            case "colour": return colour(a[0], a[1], a[2]);
            case "named": return named(a[0], a[1]);
            case "level": return level(a[0], a[1]);
            case "extend": return extend(a[0], a[1], a[2]);
            case "runs": return runs(a[0], a[1], a[2], a[3]);
            case "switched": return switched(a[0], a[1], a[2], a[3]);
            case "set": return set(a[0], a[1], a[2]);
            case "sends": return sends(a[0], a[1], a[2], a[3]);
            case "hub": return hub(a[0], a[1], a[2]);
            case "cases": return cases(a[0], a[1]);
            case "spot": return spot(a[0], a[1]);
            case "scaled": return scaled(a[0], a[1]);
            case "rule": return rule(a[0], a[1]);
            case "paint": return paint(a[0], a[1]);
            case "wash": return wash(a[0]);
            case "swap": return swap(a[0], a[1]);
            case "tune": return tune(a[0], a[1]);
            case "undo": return undo();
            case "chain": return chain(a[0], a[1]);
            case "solve": return solve(a[0]);
            case "ways": return ways();
            case "free": return free(a[0], a[1]);
            case "play": return play(a[0]);
            case "plan": return plan(a[0]);
            case "planned": return planned(a[0]);
            case "note": return note(a[0], a[1]);
            case "forget": forget(); return 0;
            case "meant": return meant(a[0]);
            case "years": return years(a[0], a[1], a[2]);
            case "image": image(); return 0;
            case "restore": return restore() ? 1 : 0;
            case "feed": return feed(a);
            default: throw new IllegalStateException("no call " + name);
        }
    }

    int feed(int... numbers) {
        if (tape.length() > 680) {
            return NONE;
        }
        for (int n : numbers) {
            for (int k = 3; k >= 0; k--) {
                tape += (char) (n >>> 8 * k & 255);
            }
        }
        return tape.length();
    }

    int atlas(int n) {
        String text = cut(n);
        AtlasTold fresh = new AtlasTold();
        try {
            fresh.read(text);
        } catch (Fault f) {
            faultPlace = f.place;
            status[0]++;
            return f.number;
        }
        faultPlace = NONE;
        atlas = fresh;
        List<Integer> colours = new ArrayList<>();
        atlas.spots.forEach(s -> colours.add(NONE));
        now = new Snapshot(colours, new ArrayList<>(atlas.amounts));
        acts.clear();
        notes.clear();
        image = null;
        lastOff = NONE;
        told = new int[] {NONE, NONE, NONE, NONE};
        return 0;
    }

    private String cut(int n) {
        if (n < 0 || n > tape.length()) {
            throw new IllegalArgumentException();
        }
        String text = tape.substring(0, n);
        tape = "";
        return text;
    }

    int fault() {
        return faultPlace;
    }

    private static void what(int what, int most) {
        if (what < 0 || what > most) {
            throw new NoSuchElementException();
        }
    }

    private int spots() {
        return atlas.spots.size();
    }

    int count(int what) {
        what(what, 16);
        int ahead = 0;
        int behind = 0;
        int positive = 0;
        int open = 0;
        for (int s = 0; s < spots(); s++) {
            ahead += spot(s, 4);
            behind += spot(s, 5);
            if (spot(s, 5) > 0) {
                positive++;
                boolean covered = false;
                for (int p = 0; p < atlas.pieces.size(); p++) {
                    covered |= (spot(s, 6) >> p & 1) == 1 && (atlas.pieces.get(p).isD() || atlas.pieces.get(p).isC());
                }
                open |= covered ? 0 : 1 << s;
            }
        }
        int[] all = {atlas.pieces.size(), atlas.rules.size(), spots(), paintedCount(now.colours()), ahead, behind,
            positive, open, laid, 0, lastOff, acts.size(), notes.size(), tape.length(), status[0], status[1], status[2]};
        return all[what];
    }

    private static int paintedCount(List<Integer> colours) {
        int n = 0;
        for (int c : colours) {
            n += c == NONE ? 0 : 1;
        }
        return n;
    }

    private PieceTold told(int piece) {
        what(piece, atlas.pieces.size() - 1);
        return atlas.pieces.get(piece);
    }

    int piece(int piece, int what) {
        PieceTold p = told(piece);
        what(what, 12);
        p.study();
        int rounds = 0;
        for (int l : p.levels) {
            rounds = Math.max(rounds, l);
        }
        int[] all = {p.hub, p.spokes.size(), p.ring, p.vertices, p.edges.size(), p.levels.size(),
            p.extending.cardinality(), p.bad().cardinality(), rounds, p.isD() ? 1 : 0, p.joins.size(),
            p.joined.cardinality(), p.isC() ? 1 : 0};
        return all[what];
    }

    int vertex(int piece, int vertex) {
        PieceTold p = told(piece);
        what(vertex, p.vertices - 1);
        int bits = 0;
        for (int v = 0; v < p.vertices; v++) {
            bits |= v != vertex && p.hasEdge(v, vertex) ? 1 << v : 0;
        }
        return bits;
    }

    private RingTold ring(int piece, int colouring) {
        RingTold r = RingTold.of(told(piece).ring);
        what(colouring, r.colourings.size() - 1);
        return r;
    }

    int colour(int piece, int colouring, int place) {
        RingTold r = ring(piece, colouring);
        what(place, r.n - 1);
        return r.array(colouring)[place];
    }

    int named(int piece, int colours) {
        RingTold r = RingTold.of(told(piece).ring);
        if (colours < 0) {
            return NONE;
        }
        String s = Integer.toString(colours);
        while (s.length() < r.n) {
            s = "0" + s;
        }
        if (s.length() > r.n || !s.matches("[0-3]*")) {
            return NONE;
        }
        return r.colourings.indexOf(RingTold.rename(s));
    }

    int level(int piece, int colouring) {
        ring(piece, colouring);
        told(piece).study();
        return told(piece).levels.get(colouring);
    }

    int extend(int piece, int colouring, int i) {
        RingTold r = ring(piece, colouring);
        PieceTold p = told(piece);
        what(i, p.spokes.size());
        int[] all = p.extension(r.array(colouring), false);
        return all == null ? NONE : all[r.n + i];
    }

    int runs(int piece, int colouring, int pairing, int what) {
        RingTold r = ring(piece, colouring);
        what(pairing, 2);
        what(what, 1);
        return what == 0 ? r.runs(colouring, pairing).size() : r.fences(colouring, pairing).size();
    }

    int switched(int piece, int colouring, int pairing, int runs) {
        RingTold r = ring(piece, colouring);
        what(pairing, 2);
        Set<Integer> chosen = new LinkedHashSet<>();
        for (int k = 0; k < 32; k++) {
            if ((runs >>> k & 1) == 1) {
                chosen.add(k);
                if (k >= r.runs(colouring, pairing).size()) {
                    throw new IllegalArgumentException();
                }
            }
        }
        return r.switched(colouring, pairing, chosen);
    }

    int set(int piece, int what, int word) {
        PieceTold p = told(piece);
        what(what, 2);
        what(word, 2);
        p.study();
        BitSet set = what == 0 ? p.extending : what == 1 ? p.bad() : p.joined;
        int bits = 0;
        for (int k = 0; k < 32; k++) {
            bits |= set.get(32 * word + k) ? 1 << k : 0;
        }
        return bits;
    }

    int sends(int a, int b, int x, int y) {
        for (int d : new int[] {a, b, x, y}) {
            if (d < 3 || d > 9) {
                throw new IllegalArgumentException();
            }
        }
        return sent(a, b, x, y, now.amounts());
    }

    private int sent(int a, int b, int x, int y, List<Integer> amounts) {
        int sum = 0;
        for (int r = 0; r < atlas.rules.size(); r++) {
            sum += atlas.rules.get(r).holds(a, b, x, y) ? amounts.get(r) : 0;
        }
        return sum;
    }

    private int behind(List<Integer> row, List<Integer> amounts) {
        int d = row.size();
        int charge = 60 - 10 * d;
        for (int i = 0; i < d; i++) {
            int x = row.get((i + d - 1) % d);
            int y = row.get((i + 1) % d);
            charge += sent(row.get(i), d, x, y, amounts);
            charge -= sent(d, row.get(i), x, y, amounts);
        }
        return charge;
    }

    private int held(List<Integer> row) {
        int bits = 0;
        for (int p = 0; p < atlas.pieces.size(); p++) {
            bits |= atlas.pieces.get(p).isHeld(row.size(), row) ? 1 << p : 0;
        }
        return bits;
    }

    private static List<Integer> digits(String s) {
        List<Integer> list = new ArrayList<>();
        for (char c : s.toCharArray()) {
            list.add(c - '0');
        }
        return list;
    }

    int hub(int hub, int row, int what) {
        what(what, 1);
        String s = Integer.toString(row);
        if (hub < 5 || hub > 7 || s.length() != hub || !s.matches("[5-9]*")) {
            throw new IllegalArgumentException();
        }
        return what == 0 ? behind(digits(s), now.amounts()) : held(digits(s));
    }

    int cases(int hub, int what) {
        what(what, 5);
        if (hub < 5 || hub > 7) {
            throw new IllegalArgumentException();
        }
        TreeSet<Integer> rows = new TreeSet<>();
        for (int code = 0; code < Math.round(Math.pow(3, hub)); code++) {
            String s = "";
            for (int i = 0, rest = code; i < hub; i++, rest /= 3) {
                s += 5 + rest % 3;
            }
            int least = Integer.MAX_VALUE;
            for (String one : List.of(s + s, new StringBuilder(s + s).reverse().toString())) {
                for (int i = 0; i < hub; i++) {
                    least = Math.min(least, Integer.parseInt(one.substring(i, i + hub)));
                }
            }
            rows.add(least);
        }
        int positive = 0;
        int covered = 0;
        int first = NONE;
        int most = Integer.MIN_VALUE;
        for (int row : rows) {
            List<Integer> list = digits(Integer.toString(row));
            int charge = behind(list, now.amounts());
            most = Math.max(most, charge);
            if (charge > 0) {
                positive++;
                boolean holds = false;
                for (PieceTold p : atlas.pieces) {
                    holds |= p.isHeld(hub, list) && (p.isD() || p.isC());
                }
                if (holds) {
                    covered++;
                } else if (first == NONE) {
                    first = row;
                }
            }
        }
        return new int[] {rows.size(), positive, covered, positive - covered, first, most}[what];
    }

    private List<Integer> rowOf(int spot) {
        List<Integer> row = new ArrayList<>();
        for (int n : atlas.spots.get(spot)) {
            row.add(atlas.spots.get(n).size());
        }
        return row;
    }

    private boolean isFree(int spot, int colour, List<Integer> colours) {
        for (int n : atlas.spots.get(spot)) {
            if (colours.get(n) == colour) {
                return false;
            }
        }
        return true;
    }

    int spot(int spot, int what) {
        what(spot, spots() - 1);
        what(what, 6);
        List<Integer> near = atlas.spots.get(spot);
        int bits = 0;
        for (int n : near) {
            bits |= 1 << n;
        }
        int free = 0;
        for (int c = 0; c < 4; c++) {
            free |= isFree(spot, c, now.colours()) ? 1 << c : 0;
        }
        return new int[] {near.size(), bits, now.colours().get(spot), free, 60 - 10 * near.size(),
            behind(rowOf(spot), now.amounts()), held(rowOf(spot))}[what];
    }

    int scaled(int spot, int factor) {
        return Math.multiplyExact(spot(spot, 5), factor);
    }

    int rule(int rule, int what) {
        what(rule, atlas.rules.size() - 1);
        what(what, 7);
        RuleTold r = atlas.rules.get(rule);
        return new int[] {now.amounts().get(rule), r.fromLow, r.fromHigh, r.toLow, r.toHigh, r.low, r.high, r.kind}[what];
    }

    /** What a deed makes of colours, or null, if it can't be done: 0 paint, 1 wash, 2 swap. */
    private List<Integer> done(int deed, int spot, int colour, List<Integer> colours) {
        if (spot < 0 || spot >= spots()) {
            return null;
        }
        int had = colours.get(spot);
        List<Integer> next = new ArrayList<>(colours);
        if (deed == 1) {
            next.set(spot, NONE);
            return had == NONE ? null : next;
        }
        if (colour < 0 || colour > 3) {
            return null;
        }
        if (deed == 0) {
            next.set(spot, colour);
            return had == NONE && isFree(spot, colour, colours) ? next : null;
        }
        Set<Integer> chain = chainOf(spot, colour, colours);
        for (int s : chain) {
            next.set(s, had + colour - colours.get(s));
        }
        return chain.isEmpty() ? null : next;
    }

    private Set<Integer> chainOf(int spot, int colour, List<Integer> colours) {
        Set<Integer> chain = new TreeSet<>();
        int had = colours.get(spot);
        if (had == NONE || had == colour) {
            return chain;
        }
        List<Integer> todo = new ArrayList<>(List.of(spot));
        while (!todo.isEmpty()) {
            int s = todo.remove(0);
            if (chain.add(s)) {
                for (int n : atlas.spots.get(s)) {
                    if (colours.get(n) == had || colours.get(n) == colour) {
                        todo.add(n);
                    }
                }
            }
        }
        return chain;
    }

    private boolean act(List<Integer> colours, List<Integer> amounts) {
        if (colours == null) {
            status[1]++;
            return false;
        }
        acts.add(now);
        if (acts.size() > 30) {
            acts.remove(0);
        }
        now = new Snapshot(colours, amounts);
        return true;
    }

    int paint(int spot, int colour) {
        what(spot, spots() - 1);
        return act(done(0, spot, colour, now.colours()), now.amounts()) ? paintedCount(now.colours()) : NONE;
    }

    int wash(int spot) {
        what(spot, spots() - 1);
        int had = now.colours().get(spot);
        act(done(1, spot, 0, now.colours()), now.amounts());
        return had;
    }

    int swap(int spot, int colour) {
        what(spot, spots() - 1);
        int size = chainOf(spot, colour, now.colours()).size();
        return act(done(2, spot, colour, now.colours()), now.amounts()) ? size : NONE;
    }

    int tune(int rule, int amount) {
        what(rule, atlas.rules.size() - 1);
        int was = now.amounts().get(rule);
        List<Integer> next = new ArrayList<>(now.amounts());
        next.set(rule, amount);
        return act(amount < 1 || amount > 99 || amount == was ? null : now.colours(), next) ? was : NONE;
    }

    int undo() {
        if (acts.isEmpty()) {
            return NONE;
        }
        now = acts.remove(acts.size() - 1);
        return acts.size();
    }

    int chain(int spot, int colour) {
        what(spot, spots() - 1);
        if (colour < 0 || colour > 3) {
            throw new IllegalArgumentException();
        }
        int bits = 0;
        for (int s : chainOf(spot, colour, now.colours())) {
            bits |= 1 << s;
        }
        return bits;
    }

    private int solutions(List<Integer> colours, int spot, List<Integer> first) {
        if (spot == spots()) {
            if (first.isEmpty()) {
                first.addAll(colours);
            }
            return 1;
        }
        if (now.colours().get(spot) != NONE) {
            return solutions(colours, spot + 1, first);
        }
        int sum = 0;
        for (int c = 0; c < 4; c++) {
            if (isFree(spot, c, colours)) {
                colours.set(spot, c);
                sum += solutions(colours, spot + 1, first);
                colours.set(spot, NONE);
            }
        }
        return sum;
    }

    int solve(int spot) {
        what(spot, spots() - 1);
        List<Integer> first = new ArrayList<>();
        return solutions(new ArrayList<>(now.colours()), 0, first) == 0 ? NONE : first.get(spot);
    }

    int ways() {
        return solutions(new ArrayList<>(now.colours()), 0, new ArrayList<>());
    }

    private boolean anyFree(int spot, List<Integer> colours) {
        for (int c = 0; c < 4; c++) {
            if (isFree(spot, c, colours)) {
                return true;
            }
        }
        return false;
    }

    int free(int spot, int what) {
        what(spot, spots() - 1);
        what(what, 1);
        if (now.colours().get(spot) != NONE) {
            return NONE;
        }
        if (anyFree(spot, now.colours())) {
            return what == 0 ? 0 : NONE;
        }
        int two = NONE;
        for (int move = 0; move < 10 * spots(); move++) {
            List<Integer> one = done(2, move / 10, move % 10, now.colours());
            if (one != null && anyFree(spot, one)) {
                return what == 0 ? 1 : move;
            }
            for (int next = 0; next < 10 * spots() && one != null && two == NONE; next++) {
                List<Integer> both = done(2, next / 10, next % 10, one);
                if (both != null && anyFree(spot, both)) {
                    two = move;
                }
            }
        }
        return two == NONE ? NONE : what == 0 ? 2 : two;
    }

    private boolean firstWins(List<Integer> colours, boolean firstsTurn) {
        if (!colours.contains(NONE)) {
            return true;
        }
        boolean some = false;
        boolean every = true;
        boolean moved = false;
        for (int move = 0; move < 10 * spots(); move++) {
            List<Integer> next = done(0, move / 10, move % 10, colours);
            if (next != null) {
                moved = true;
                boolean wins = firstWins(next, !firstsTurn);
                some |= wins;
                every &= wins;
            }
        }
        return moved && (firstsTurn ? some : every);
    }

    int play(int what) {
        what(what, 1);
        int unpainted = spots() - paintedCount(now.colours());
        if (unpainted > 4) {
            return NONE;
        }
        if (what == 0) {
            return firstWins(now.colours(), true) ? 1 : 2;
        }
        for (int move = 0; move < 10 * spots() && unpainted > 0; move++) {
            List<Integer> next = done(0, move / 10, move % 10, now.colours());
            if (next != null && firstWins(next, false)) {
                return move;
            }
        }
        return NONE;
    }

    int plan(int n) {
        List<Token> tokens = tokensOf(cut(n));
        List<List<Integer>> sheets = new ArrayList<>(List.of(now.colours()));
        List<Integer> numbers = new ArrayList<>(List.of(laid++));
        int most = 1;
        int steps = 0;
        int broke = NONE;
        int at = 0;
        while (at < tokens.size() - 1 && broke == NONE) {
            Token first = tokens.get(at++);
            int deed = List.of("paint", "wash", "swap", "sheet", "off").indexOf(first.text());
            if (deed < 0) {
                broke = first.start();
                break;
            }
            int[] two = new int[2];
            for (int i = 0; i < new int[] {2, 1, 2, 0, 0}[deed] && broke == NONE; i++) {
                Token t = tokens.get(at++);
                if (!t.isNumber() || t.isLong()) {
                    broke = t.start();
                } else {
                    two[i] = t.value();
                }
            }
            if (broke == NONE && !tokens.get(at).text().equals(";")) {
                broke = tokens.get(at).start();
            }
            at++;
            if (broke != NONE) {
                break;
            }
            int top = sheets.size() - 1;
            boolean does = true;
            if (deed == 3) {
                does = sheets.size() < 8;
                if (does) {
                    sheets.add(sheets.get(top));
                    numbers.add(laid++);
                    most = Math.max(most, sheets.size());
                }
            } else if (deed == 4) {
                does = sheets.size() > 1;
                if (does) {
                    sheets.remove(top);
                    lastOff = numbers.remove(top);
                }
            } else {
                List<Integer> next = done(deed, two[0], two[1], sheets.get(top));
                does = next != null;
                if (does) {
                    sheets.set(top, next);
                }
            }
            if (does) {
                steps++;
            } else {
                broke = first.start();
            }
        }
        String off = "";
        for (int i = numbers.size() - 1; i >= 0; i--) {
            off += numbers.get(i) % 10;
            lastOff = numbers.get(i);
        }
        told = new int[] {broke, paintedCount(sheets.get(sheets.size() - 1)), most, Integer.parseInt(off)};
        return steps;
    }

    int planned(int what) {
        what(what, 3);
        return told[what];
    }

    int note(int spot, int charge) {
        what(spot, spots() - 1);
        if (notes.size() == 8 || charge < -999 || charge > 999) {
            status[2]++;
            return NONE;
        }
        notes.add(new Note(spot, charge));
        return notes.size();
    }

    void forget() {
        notes.clear();
    }

    private boolean allSo(List<Integer> amounts) {
        for (Note n : notes) {
            if (behind(rowOf(n.spot()), amounts) != n.charge()) {
                return false;
            }
        }
        return true;
    }

    int meant(int what) {
        what(what, 2);
        List<Integer> found = new ArrayList<>();
        for (int r = 0; r < atlas.rules.size(); r++) {
            for (int a = 1; a < 100; a++) {
                List<Integer> amounts = new ArrayList<>(now.amounts());
                amounts.set(r, a);
                if (a != now.amounts().get(r) && allSo(amounts)) {
                    found.add(100 * r + a);
                }
            }
        }
        return new int[] {found.size(), found.isEmpty() ? NONE : found.get(0), allSo(now.amounts()) ? 1 : 0}[what];
    }

    int years(int seed, int n, int what) {
        what(what, 2);
        if (n < 0 || n > 100) {
            throw new IllegalArgumentException();
        }
        List<Integer> colours = now.colours();
        int often = 0;
        long s = seed;
        for (int i = 0; i < n && spots() > 0; i++) {
            int[] drawn = new int[3];
            int[] of = {3, spots(), 4};
            for (int k = 0; k < 3; k++) {
                s = (s * 1103515245L + 12345L) & 0xffffffffL;
                drawn[k] = (int) (s / 65536 % 32768 % of[k]);
            }
            List<Integer> next = done(drawn[0], drawn[1], drawn[2], colours);
            if (next != null) {
                colours = next;
                often++;
            }
        }
        Set<Integer> unlike = new TreeSet<>(colours);
        unlike.remove(NONE);
        return new int[] {paintedCount(colours), often, unlike.size()}[what];
    }

    void image() {
        image = new Image(now, new ArrayList<>(acts), new ArrayList<>(notes));
    }

    boolean restore() {
        if (image == null) {
            return false;
        }
        now = image.now();
        acts = new ArrayList<>(image.acts());
        notes = new ArrayList<>(image.notes());
        return true;
    }
}
