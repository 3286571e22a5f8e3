import java.util.Arrays;
import java.util.NoSuchElementException;

/**
 * Reducible and unavoidable map pieces: an ATLAS of PIECES, RULES and a MAP of SPOTS is read from a tape,
 * and asked about. What each method promises stands in the project's document; words in capitals are its terms.
 */
public final class MapPieces {
    public static final int NONE = -1;

    private static final int MOST_BYTES = 700;
    private static final int MOST_PIECES = 4;
    private static final int MOST_JOINS = 4;
    private static final int MOST_RULES = 6;
    private static final int MOST_AMOUNT = 99;
    private static final int MOST_SPOTS = 12;
    private static final int MOST_NEIGHBOURS = 9;
    private static final int LEAST_NEIGHBOURS = 3;
    private static final int LEAST_HUB = 5;
    private static final int MOST_HUB = 7;
    private static final int LEAST_PLACES = 5;
    private static final int MOST_PLACES = 7;
    private static final int MOST_VERTICES = MOST_PLACES + 1 + MOST_HUB;
    private static final int MOST_COLOURINGS = 91;
    private static final int MOST_ACTS = 30;
    private static final int MOST_NOTED = 8;
    private static final int MOST_SHEETS = 8;
    private static final int MOST_YEARS = 100;
    private static final int COLOURS = 4;
    private static final int PAIRINGS = 3;

    private final Tokens tape = new Tokens();
    private int tapeLength = 0;
    private Atlas current = new Atlas();
    // a text with a FAULT must leave all as it is, so each text is read into this one first
    private Atlas draft = new Atlas();
    private final Ring[] rings = new Ring[MOST_PLACES - LEAST_PLACES + 1];
    private final Cases caseBook = new Cases();
    private final State state = new State();
    private final State kept = new State();
    private boolean hasImage = false;
    private final Search search = new Search();
    private final Plan planner = new Plan();
    private final int[] around = new int[MOST_NEIGHBOURS];
    // of each NOTED: what its CHARGE lacks, and by how much 1 more of the AMOUNT in question mends that
    private final int[] lacks = new int[MOST_NOTED];
    private final int[] nets = new int[MOST_NOTED];
    private final int[] refused = new int[3];
    private int faultPlace = NONE;

    public MapPieces() {
    }

    public int feed(int a, int b, int c, int d, int e) {
        if (tapeLength + 20 > MOST_BYTES) {
            return NONE;
        }
        putBytes(a);
        putBytes(b);
        putBytes(c);
        putBytes(d);
        putBytes(e);
        return tapeLength;
    }

    public int atlas(int n) throws IllegalArgumentException {
        takeTape(n);
        int found = Reader.read(tape, draft);
        if (found != 0) {
            faultPlace = tape.start;
            refused[0]++;
            return found;
        }
        faultPlace = NONE;
        Atlas old = current;
        current = draft;
        draft = old;
        state.begin(current.rules);
        hasImage = false;
        planner.forgetTold();
        return 0;
    }

    public int fault() {
        return faultPlace;
    }

    public int count(int what) throws NoSuchElementException {
        switch (what) {
            case 0: return current.pieceCount;
            case 1: return current.rules.count;
            case 2: return current.spotCount;
            case 3: return state.paints.paintedCount();
            case 4: return chargeAhead();
            case 5: return chargeBehind();
            case 6: return Integer.bitCount(positiveSpots());
            case 7: return openSpots(positiveSpots(), reduciblePieces());
            case 8: return planner.laidEver;
            case 9: return planner.lying;
            case 10: return planner.lastOff;
            case 11: return state.actCount;
            case 12: return state.noted;
            case 13: return tapeLength;
            case 14: return refused[0];
            case 15: return refused[1];
            case 16: return refused[2];
            default: throw new NoSuchElementException();
        }
    }

    public int piece(int piece, int what) throws NoSuchElementException {
        Piece one = pieceAt(piece);
        switch (what) {
            case 0: return one.hubDegree;
            case 1: return one.spokeCount;
            case 2: return one.places;
            case 3: return one.vertices;
            case 4: return one.edgeCount();
            case 5: return ringOf(one).count;
            case 6: return studied(one).sizeOf(one.extending);
            case 7: return studied(one).sizeOf(one.bad);
            case 8: return studied(one).rounds;
            case 9: return studied(one).isD() ? 1 : 0;
            case 10: return one.joinCount;
            case 11: return studied(one).sizeOf(one.joined);
            case 12: return studied(one).isC() ? 1 : 0;
            default: throw new NoSuchElementException();
        }
    }

    public int vertex(int piece, int vertex) throws NoSuchElementException {
        Piece one = pieceAt(piece);
        if (vertex < 0 || vertex >= one.vertices) {
            throw new NoSuchElementException();
        }
        return one.near[vertex];
    }

    public int colour(int piece, int colouring, int place) throws NoSuchElementException {
        Ring ring = ringOf(pieceAt(piece));
        int code = codeAt(ring, colouring);
        if (place < 0 || place >= ring.size) {
            throw new NoSuchElementException();
        }
        return ring.colourAt(code, place);
    }

    public int named(int piece, int colours) throws NoSuchElementException {
        Ring ring = ringOf(pieceAt(piece));
        int code = ring.codeOfDigits(colours);
        return code == NONE ? NONE : ring.find(ring.renamed(code));
    }

    public int level(int piece, int colouring) throws NoSuchElementException {
        Piece one = pieceAt(piece);
        codeAt(ringOf(one), colouring);
        return studied(one).levels[colouring];
    }

    public int extend(int piece, int colouring, int i) throws NoSuchElementException {
        Piece one = pieceAt(piece);
        Ring ring = ringOf(one);
        int code = codeAt(ring, colouring);
        if (i < 0 || i > one.spokeCount) {
            throw new NoSuchElementException();
        }
        return one.firstExtension(ring, code, i);
    }

    public int runs(int piece, int colouring, int pairing, int what) throws NoSuchElementException {
        Ring ring = ringOf(pieceAt(piece));
        int code = codeAt(ring, colouring);
        if (pairing < 0 || pairing >= PAIRINGS || what < 0 || what > 1) {
            throw new NoSuchElementException();
        }
        int many = ring.split(code, pairing);
        return what == 0 ? many : Ring.fenceCount(many);
    }

    public int switched(int piece, int colouring, int pairing, int runs)
            throws NoSuchElementException, IllegalArgumentException {
        Ring ring = ringOf(pieceAt(piece));
        int code = codeAt(ring, colouring);
        if (pairing < 0 || pairing >= PAIRINGS) {
            throw new NoSuchElementException();
        }
        int many = ring.split(code, pairing);
        if (runs >>> many != 0) {
            throw new IllegalArgumentException();
        }
        return ring.find(ring.renamed(ring.turned(code, pairing, runs)));
    }

    public int set(int piece, int what, int word) throws NoSuchElementException {
        Piece one = pieceAt(piece);
        if (word < 0 || word >= Piece.WORDS || what < 0 || what > 2) {
            throw new NoSuchElementException();
        }
        studied(one);
        if (what == 0) {
            return one.extending[word];
        }
        return what == 1 ? one.bad[word] : one.joined[word];
    }

    public int sends(int a, int b, int x, int y) throws IllegalArgumentException {
        if (!isDegree(a) || !isDegree(b) || !isDegree(x) || !isDegree(y)) {
            throw new IllegalArgumentException();
        }
        return current.rules.sent(a, b, x, y, state.amounts);
    }

    public int hub(int hub, int row, int what) throws NoSuchElementException, IllegalArgumentException {
        if (what < 0 || what > 1) {
            throw new NoSuchElementException();
        }
        if (hub < LEAST_HUB || hub > MOST_HUB || !takeRow(hub, row)) {
            throw new IllegalArgumentException();
        }
        return what == 0 ? current.rules.behind(hub, around, state.amounts) : current.heldPieces(hub, around);
    }

    public int cases(int hub, int what) throws NoSuchElementException, IllegalArgumentException {
        if (what < 0 || what > 5) {
            throw new NoSuchElementException();
        }
        if (hub < LEAST_HUB || hub > MOST_HUB) {
            throw new IllegalArgumentException();
        }
        caseBook.tally(hub, current, state.amounts, reduciblePieces());
        return caseBook.results[what];
    }

    public int spot(int spot, int what) throws NoSuchElementException {
        checkSpot(spot);
        switch (what) {
            case 0: return current.degrees[spot];
            case 1: return current.near[spot];
            case 2: return state.paints.colourAt(spot);
            case 3: return state.paints.freeColours(current, spot);
            case 4: return Rules.ahead(current.degrees[spot]);
            case 5: return spotCharge(spot);
            case 6: return piecesHeldBy(spot);
            default: throw new NoSuchElementException();
        }
    }

    public int scaled(int spot, int factor) throws NoSuchElementException, ArithmeticException {
        checkSpot(spot);
        long product = (long) spotCharge(spot) * factor;
        int held = (int) product;
        if (held != product) {
            throw new ArithmeticException();
        }
        return held;
    }

    public int rule(int rule, int what) throws NoSuchElementException {
        checkRule(rule);
        if (what < 0 || what >= Rules.WIDTH) {
            throw new NoSuchElementException();
        }
        return what == 0 ? state.amounts[rule] : current.rules.told[rule * Rules.WIDTH + what];
    }

    public int paint(int spot, int colour) throws NoSuchElementException {
        checkSpot(spot);
        if (!state.paints.mayPaint(current, spot, colour)) {
            return refusedAct();
        }
        state.paints.put(spot, colour);
        state.keepAct(State.PAINTED, spot, colour);
        return state.paints.paintedCount();
    }

    public int wash(int spot) throws NoSuchElementException {
        checkSpot(spot);
        int had = state.paints.colourAt(spot);
        if (had == NONE) {
            return refusedAct();
        }
        state.paints.take(spot, had);
        state.keepAct(State.WASHED, spot, had);
        return had;
    }

    public int swap(int spot, int colour) throws NoSuchElementException {
        checkSpot(spot);
        int bits = state.paints.chainOf(current, spot, colour);
        if (bits == 0) {
            return refusedAct();
        }
        int had = state.paints.colourAt(spot);
        state.paints.exchange(bits, had, colour);
        state.keepAct(State.SWAPPED, bits, had * COLOURS + colour);
        return Integer.bitCount(bits);
    }

    public int tune(int rule, int amount) throws NoSuchElementException {
        checkRule(rule);
        int was = state.amounts[rule];
        if (amount < 1 || amount > MOST_AMOUNT || amount == was) {
            return refusedAct();
        }
        state.amounts[rule] = amount;
        state.keepAct(State.TUNED, rule, was);
        return was;
    }

    public int undo() {
        if (state.actCount == 0) {
            return NONE;
        }
        state.undoLast();
        return state.actCount;
    }

    public int chain(int spot, int colour) throws NoSuchElementException, IllegalArgumentException {
        checkSpot(spot);
        if (!isColour(colour)) {
            throw new IllegalArgumentException();
        }
        return state.paints.chainOf(current, spot, colour);
    }

    public int solve(int spot) throws NoSuchElementException {
        checkSpot(spot);
        search.begin(state.paints);
        return search.paintAll(current) ? search.work.colourAt(spot) : NONE;
    }

    public int ways() {
        search.begin(state.paints);
        return search.allWays(current);
    }

    public int free(int spot, int what) throws NoSuchElementException {
        checkSpot(spot);
        if (what < 0 || what > 1) {
            throw new NoSuchElementException();
        }
        search.begin(state.paints);
        search.seekFree(current, spot);
        return what == 0 ? search.fewest : search.firstMove;
    }

    public int play(int what) throws NoSuchElementException {
        if (what < 0 || what > 1) {
            throw new NoSuchElementException();
        }
        search.begin(state.paints);
        search.playGame(current);
        return what == 0 ? search.winner : search.firstMove;
    }

    public int plan(int n) throws IllegalArgumentException {
        takeTape(n);
        planner.run(tape, current, state.paints);
        return planner.steps;
    }

    public int planned(int what) throws NoSuchElementException {
        if (what < 0 || what > 3) {
            throw new NoSuchElementException();
        }
        return planner.toldOf(what);
    }

    public int note(int spot, int charge) throws NoSuchElementException {
        checkSpot(spot);
        if (state.noted >= MOST_NOTED || charge < -999 || charge > 999) {
            refused[2]++;
            return NONE;
        }
        state.keepNote(spot, charge);
        return state.noted;
    }

    public void forget() {
        state.noted = 0;
    }

    public int meant(int what) throws NoSuchElementException {
        if (what < 0 || what > 2) {
            throw new NoSuchElementException();
        }
        findLacks();
        if (what == 2) {
            return mendsLacks(0) ? 1 : 0;
        }
        int many = 0;
        int first = NONE;
        for (int rule = 0; rule < current.rules.count; rule++) {
            findNets(rule);
            for (int amount = 1; amount <= MOST_AMOUNT; amount++) {
                int more = amount - state.amounts[rule];
                if (more != 0 && mendsLacks(more)) {
                    first = many == 0 ? 100 * rule + amount : first;
                    many++;
                }
            }
        }
        return what == 0 ? many : first;
    }

    public int years(int seed, int n, int what) throws NoSuchElementException, IllegalArgumentException {
        if (what < 0 || what > 2) {
            throw new NoSuchElementException();
        }
        if (n < 0 || n > MOST_YEARS) {
            throw new IllegalArgumentException();
        }
        search.begin(state.paints);
        int done = search.liveYears(current, seed, n);
        if (what == 0) {
            return search.work.paintedCount();
        }
        return what == 1 ? done : search.work.unlikeColours();
    }

    public void image() {
        kept.copyFrom(state);
        hasImage = true;
    }

    public boolean restore() {
        if (!hasImage) {
            return false;
        }
        state.copyFrom(kept);
        return true;
    }

    private void putBytes(int four) {
        for (int shift = 24; shift >= 0 && tapeLength < MOST_BYTES; shift -= 8) {
            tape.text[tapeLength] = (byte) (four >> shift);
            tapeLength++;
        }
    }

    private void takeTape(int n) {
        if (n < 0 || n > tapeLength) {
            throw new IllegalArgumentException();
        }
        tapeLength = 0;
        tape.begin(n);
    }

    private Piece pieceAt(int piece) {
        if (piece < 0 || piece >= current.pieceCount) {
            throw new NoSuchElementException();
        }
        return current.pieces[piece];
    }

    private int codeAt(Ring ring, int colouring) {
        if (colouring < 0 || colouring >= ring.count) {
            throw new NoSuchElementException();
        }
        return ring.codes[colouring];
    }

    private void checkSpot(int spot) {
        if (spot < 0 || spot >= current.spotCount) {
            throw new NoSuchElementException();
        }
    }

    private void checkRule(int rule) {
        if (rule < 0 || rule >= current.rules.count) {
            throw new NoSuchElementException();
        }
    }

    private int refusedAct() {
        refused[1]++;
        return NONE;
    }

    private static boolean isColour(int colour) {
        return colour >= 0 && colour < COLOURS;
    }

    private static boolean isDegree(int degree) {
        return degree >= 3 && degree <= 9;
    }

    /** RINGS of one size are alike for all PIECES, so each is made once, when it is first asked for. */
    private Ring ringOf(Piece one) {
        int at = Math.max(0, Math.min(one.places, MOST_PLACES) - LEAST_PLACES);
        Ring ring = rings[at];
        if (ring == null) {
            ring = new Ring(at + LEAST_PLACES);
            rings[at] = ring;
        }
        return ring;
    }

    private Piece studied(Piece one) {
        if (!one.isStudied) {
            one.study(ringOf(one));
        }
        return one;
    }

    private int reduciblePieces() {
        int bits = 0;
        for (int piece = 0; piece < current.pieceCount; piece++) {
            Piece one = studied(current.pieces[piece]);
            if (one.isD() || one.isC()) {
                bits |= 1 << piece;
            }
        }
        return bits;
    }

    private boolean takeRow(int hub, int digits) {
        int left = digits;
        for (int i = hub - 1; i >= 0; i--) {
            int digit = left % 10;
            if (digit < 5) {
                return false;
            }
            around[i] = digit;
            left /= 10;
        }
        return left == 0;
    }

    private int spotCharge(int spot) {
        current.rowOf(spot, around);
        return current.rules.behind(current.degrees[spot], around, state.amounts);
    }

    private int piecesHeldBy(int spot) {
        current.rowOf(spot, around);
        return current.heldPieces(current.degrees[spot], around);
    }

    private int chargeAhead() {
        int sum = 0;
        for (int spot = 0; spot < current.spotCount; spot++) {
            sum += Rules.ahead(current.degrees[spot]);
        }
        return sum;
    }

    private int chargeBehind() {
        int sum = 0;
        for (int spot = 0; spot < current.spotCount; spot++) {
            sum += spotCharge(spot);
        }
        return sum;
    }

    private int positiveSpots() {
        int bits = 0;
        for (int spot = 0; spot < current.spotCount; spot++) {
            if (spotCharge(spot) > 0) {
                bits |= 1 << spot;
            }
        }
        return bits;
    }

    private int openSpots(int positive, int reducible) {
        int bits = positive;
        for (int spot = 0; spot < current.spotCount; spot++) {
            if ((piecesHeldBy(spot) & reducible) != 0) {
                bits &= ~(1 << spot);
            }
        }
        return bits;
    }

    private void findLacks() {
        for (int i = 0; i < state.noted; i++) {
            lacks[i] = state.notedCharges[i] - spotCharge(state.notedSpots[i]);
        }
    }

    private void findNets(int rule) {
        for (int i = 0; i < state.noted; i++) {
            int spot = state.notedSpots[i];
            current.rowOf(spot, around);
            nets[i] = current.rules.net(rule, current.degrees[spot], around);
        }
    }

    /** Whether all NOTED would be so, if the AMOUNT of the RULE whose nets were found were so much more. */
    private boolean mendsLacks(int more) {
        for (int i = 0; i < state.noted; i++) {
            if (more * nets[i] != lacks[i]) {
                return false;
            }
        }
        return true;
    }

    /** The tape, and its text cut into TOKENS, one at a time. */
    private static final class Tokens {
        static final int END = 0;
        static final int WORD = 1;
        static final int NUMBER = 2;
        static final int SEMICOLON = 3;
        private static final int BLANK = 4;
        private static final int OTHER = 5;
        // above every NUMBER of 4 digits, so that it is out of all ranges too
        static final int TOO_LONG = 10000;

        final byte[] text = new byte[MOST_BYTES];
        private int length = 0;
        private int next = 0;
        int kind = END;
        int start = 0;
        int value = 0;

        void begin(int n) {
            length = Math.min(n, MOST_BYTES);
            next = 0;
        }

        void advance() {
            while (next < length && kindAt(next) == BLANK) {
                next++;
            }
            start = next;
            value = 0;
            kind = kindAt(next);
            if (kind != WORD && kind != NUMBER) {
                next = kind == END ? next : next + 1;
                return;
            }
            while (next < length && kindAt(next) == kind) {
                value = kind == NUMBER ? Math.min(value * 10 + text[next] - '0', TOO_LONG) : 0;
                next++;
            }
            // five digits are too many, even where they begin with 0
            if (kind == NUMBER && next - start > 4) {
                value = TOO_LONG;
            }
        }

        private int kindAt(int at) {
            if (at >= length) {
                return END;
            }
            byte sign = text[at];
            if (sign >= 'a' && sign <= 'z') {
                return WORD;
            }
            if (sign >= '0' && sign <= '9') {
                return NUMBER;
            }
            if (sign == ' ' || sign == 10) {
                return BLANK;
            }
            return sign == ';' ? SEMICOLON : OTHER;
        }

        boolean isWord(String word) {
            if (kind != WORD || next - start != word.length()) {
                return false;
            }
            for (int i = 0; i < word.length(); i++) {
                if (text[start + i] != word.charAt(i)) {
                    return false;
                }
            }
            return true;
        }
    }

    /** Reads the text of an ATLAS; each method answers a FAULT, or 0, and leaves the TOKEN of the FAULT as the last. */
    private static final class Reader {
        static int read(Tokens tokens, Atlas draft) {
            draft.clear();
            int found = 0;
            for (int line = 0; line <= MOST_BYTES && found == 0; line++) {
                tokens.advance();
                if (tokens.kind == Tokens.END) {
                    return draft.isMap() ? 0 : 6;
                }
                if (tokens.isWord("piece")) {
                    found = readPiece(tokens, draft);
                } else if (tokens.isWord("join")) {
                    found = readJoin(tokens, draft);
                } else if (tokens.isWord("rule")) {
                    found = readRule(tokens, draft);
                } else {
                    found = tokens.isWord("spot") ? readSpot(tokens, draft) : 1;
                }
            }
            return found;
        }

        private static int readPiece(Tokens tokens, Atlas draft) {
            if (draft.pieceCount >= MOST_PIECES) {
                return 2;
            }
            int found = readNumber(tokens, LEAST_HUB, MOST_HUB);
            if (found != 0) {
                return found;
            }
            Piece piece = draft.pieces[draft.pieceCount];
            piece.begin(tokens.value);
            for (int i = 0; i <= MOST_HUB; i++) {
                tokens.advance();
                if (tokens.kind == Tokens.SEMICOLON) {
                    return piece.build() ? draft.keepPiece() : 2;
                }
                found = checkNumber(tokens, 5, 9);
                if (found != 0) {
                    return found;
                }
                if (!piece.addSpoke(tokens.value)) {
                    return 2;
                }
            }
            return 2;
        }

        private static int readJoin(Tokens tokens, Atlas draft) {
            if (draft.pieceCount < 1) {
                return 3;
            }
            Piece piece = draft.pieces[draft.pieceCount - 1];
            if (piece.joinCount >= MOST_JOINS) {
                return 2;
            }
            int found = readVertex(tokens, piece);
            int first = tokens.value;
            if (found == 0) {
                found = readVertex(tokens, piece);
            }
            if (found != 0) {
                return found;
            }
            if (!piece.addJoin(first, tokens.value)) {
                return 4;
            }
            tokens.advance();
            return tokens.kind == Tokens.SEMICOLON ? 0 : 1;
        }

        private static int readVertex(Tokens tokens, Piece piece) {
            int found = readNumber(tokens, 0, Tokens.TOO_LONG - 1);
            if (found != 0) {
                return found;
            }
            return tokens.value < piece.vertices ? 0 : 3;
        }

        private static int readRule(Tokens tokens, Atlas draft) {
            Rules rules = draft.rules;
            if (rules.count >= MOST_RULES) {
                return 2;
            }
            int found = readNumber(tokens, 1, MOST_AMOUNT);
            if (found != 0) {
                return found;
            }
            rules.begin(tokens.value);
            tokens.advance();
            found = tokens.isWord("from") ? readRange(tokens, rules, 1) : 1;
            if (found != 0) {
                return found;
            }
            tokens.advance();
            found = tokens.isWord("to") ? readRange(tokens, rules, 3) : 1;
            if (found != 0) {
                return found;
            }
            tokens.advance();
            int beside = tokens.isWord("with") ? Rules.WITH : tokens.isWord("both") ? Rules.BOTH : 0;
            if (beside != 0) {
                rules.tell(7, beside);
                found = readRange(tokens, rules, 5);
                if (found != 0) {
                    return found;
                }
                tokens.advance();
            }
            return tokens.kind == Tokens.SEMICOLON ? rules.keepRule() : 1;
        }

        private static int readRange(Tokens tokens, Rules rules, int at) {
            int found = readNumber(tokens, 3, 9);
            if (found != 0) {
                return found;
            }
            int low = tokens.value;
            rules.tell(at, low);
            found = readNumber(tokens, low, 9);
            rules.tell(at + 1, tokens.value);
            return found;
        }

        private static int readSpot(Tokens tokens, Atlas draft) {
            if (draft.spotCount >= MOST_SPOTS) {
                return 2;
            }
            draft.beginSpot();
            for (int i = 0; i <= MOST_NEIGHBOURS; i++) {
                tokens.advance();
                if (tokens.kind == Tokens.SEMICOLON && i > 0) {
                    return i < LEAST_NEIGHBOURS ? 2 : draft.keepSpot();
                }
                int found = checkNumber(tokens, 0, MOST_SPOTS - 1);
                if (found != 0) {
                    return found;
                }
                if (i >= MOST_NEIGHBOURS) {
                    return 2;
                }
                if (!draft.addNeighbour(tokens.value)) {
                    return 4;
                }
            }
            return 2;
        }

        private static int readNumber(Tokens tokens, int least, int most) {
            tokens.advance();
            return checkNumber(tokens, least, most);
        }

        private static int checkNumber(Tokens tokens, int least, int most) {
            if (tokens.kind != Tokens.NUMBER) {
                return 1;
            }
            return tokens.value < least || tokens.value > most ? 2 : 0;
        }
    }

    /** PIECES, RULES and the MAP that a text tells. */
    private static final class Atlas {
        final Piece[] pieces = new Piece[MOST_PIECES];
        int pieceCount = 0;
        final Rules rules = new Rules();
        final int[] degrees = new int[MOST_SPOTS];
        final int[] near = new int[MOST_SPOTS];
        private final int[] neighbours = new int[MOST_SPOTS * MOST_NEIGHBOURS];
        int spotCount = 0;

        Atlas() {
            for (int i = 0; i < MOST_PIECES; i++) {
                pieces[i] = new Piece();
            }
        }

        void clear() {
            pieceCount = 0;
            rules.count = 0;
            spotCount = 0;
        }

        /** Counts the PIECE that was built; no FAULT. */
        int keepPiece() {
            pieceCount++;
            return 0;
        }

        /** Counts the SPOT whose NEIGHBOURS were told; no FAULT. */
        int keepSpot() {
            spotCount++;
            return 0;
        }

        void beginSpot() {
            degrees[spotCount] = 0;
            near[spotCount] = 0;
        }

        boolean addNeighbour(int neighbour) {
            int degree = degrees[spotCount];
            if (neighbour == spotCount || (near[spotCount] >> neighbour & 1) != 0 || degree >= MOST_NEIGHBOURS) {
                return false;
            }
            neighbours[spotCount * MOST_NEIGHBOURS + degree] = neighbour;
            near[spotCount] |= 1 << neighbour;
            degrees[spotCount] = degree + 1;
            return true;
        }

        boolean isMap() {
            for (int u = 0; u < spotCount; u++) {
                for (int i = 0; i < degrees[u]; i++) {
                    int v = neighbourAt(u, i);
                    int w = neighbourAt(u, i + 1 < degrees[u] ? i + 1 : 0);
                    if (v >= spotCount || behindOf(v, w) != u) {
                        return false;
                    }
                }
            }
            return true;
        }

        private int neighbourAt(int spot, int i) {
            return neighbours[spot * MOST_NEIGHBOURS + i];
        }

        /** Who follows a neighbour round a SPOT; NONE, if it is no neighbour. */
        private int behindOf(int spot, int neighbour) {
            int degree = degrees[spot];
            for (int i = 0; i < degree; i++) {
                if (neighbourAt(spot, i) == neighbour) {
                    return neighbourAt(spot, i + 1 < degree ? i + 1 : 0);
                }
            }
            return NONE;
        }

        void rowOf(int spot, int[] into) {
            for (int i = 0; i < degrees[spot] && i < into.length; i++) {
                into[i] = degrees[neighbourAt(spot, i)];
            }
        }

        int heldPieces(int degree, int[] row) {
            int bits = 0;
            for (int piece = 0; piece < pieceCount; piece++) {
                if (pieces[piece].isHeldBy(degree, row)) {
                    bits |= 1 << piece;
                }
            }
            return bits;
        }
    }

    /** RULES as they are told; the AMOUNTS that are in force come from outside, as they may be tuned. */
    private static final class Rules {
        static final int WIDTH = 8;
        static final int WITH = 1;
        static final int BOTH = 2;

        int count = 0;
        // of each RULE: AMOUNT, LOW and HIGH of 'from', of 'to', of those beside, and how those beside are asked for
        final int[] told = new int[MOST_RULES * WIDTH];

        static int ahead(int degree) {
            return 10 * (6 - degree);
        }

        void begin(int amount) {
            for (int what = 1; what < WIDTH; what++) {
                tell(what, 0);
            }
            tell(0, amount);
        }

        /** Counts the RULE that was told; no FAULT. */
        int keepRule() {
            count++;
            return 0;
        }

        void tell(int what, int value) {
            told[count * WIDTH + what] = value;
        }

        int sent(int a, int b, int x, int y, int[] amounts) {
            int sum = 0;
            for (int rule = 0; rule < count; rule++) {
                if (applies(rule, a, b, x, y)) {
                    sum += amounts[rule];
                }
            }
            return sum;
        }

        int behind(int degree, int[] row, int[] amounts) {
            int charge = ahead(degree);
            for (int rule = 0; rule < count; rule++) {
                charge += amounts[rule] * net(rule, degree, row);
            }
            return charge;
        }

        /** How often a RULE sends to the middle of a ROW, less how often it sends from there. */
        int net(int rule, int degree, int[] row) {
            int net = 0;
            for (int i = 0; i < degree; i++) {
                int x = row[i > 0 ? i - 1 : degree - 1];
                int y = row[i + 1 < degree ? i + 1 : 0];
                if (applies(rule, row[i], degree, x, y)) {
                    net++;
                }
                if (applies(rule, degree, row[i], x, y)) {
                    net--;
                }
            }
            return net;
        }

        private boolean applies(int rule, int a, int b, int x, int y) {
            int at = rule * WIDTH;
            if (!isWithin(a, at + 1) || !isWithin(b, at + 3)) {
                return false;
            }
            int beside = told[at + 7];
            if (beside == WITH) {
                return isWithin(x, at + 5) || isWithin(y, at + 5);
            }
            return beside != BOTH || isWithin(x, at + 5) && isWithin(y, at + 5);
        }

        private boolean isWithin(int degree, int at) {
            return degree >= told[at] && degree <= told[at + 1];
        }
    }

    /** All COLOURINGS of a RING of one size, and what switching RUNS makes of them. */
    private static final class Ring {
        // Switching all RUNS of a pair only renames, so the GROUPS of RUNS 0 and 1 may be left as they are:
        // of each way of FENCES stand here the RUNS behind these (RUN 2 is bit 0) that a SWITCH can take,
        // for one, two and three RUNS of each pair; a RING of at most 7 PLACES has no more.
        private static final int[] SWITCHES_OF_1 = {0};
        private static final int[] SWITCHES_OF_2 = {0, 1, 0, 2};
        private static final int[] SWITCHES_OF_3 = {0, 2, 8, 10, 0, 4, 10, 14, 0, 1, 8, 9, 0, 5, 2, 7, 0, 1, 4, 5};
        private static final int MOST_SWITCHES = 16;

        final int size;
        int count = 0;
        // two bits a PLACE, PLACE 0 the highest: so the order of codes is that of COLOURINGS
        final int[] codes = new int[MOST_COLOURINGS];
        private final int[] runAt = new int[MOST_PLACES];
        private final byte[] runCounts;
        private final byte[] becomes;

        Ring(int places) {
            size = places;
            grow(1, 0, 1);
            runCounts = new byte[count * PAIRINGS];
            becomes = new byte[count * PAIRINGS * MOST_SWITCHES];
            for (int colouring = 0; colouring < count; colouring++) {
                for (int pairing = 0; pairing < PAIRINGS; pairing++) {
                    tabulate(colouring, pairing);
                }
            }
        }

        private void grow(int place, int code, int used) {
            if (place >= size) {
                if (count < MOST_COLOURINGS) {
                    codes[count] = code;
                    count++;
                }
                return;
            }
            for (int colour = 0; colour <= used && colour < COLOURS; colour++) {
                boolean closesBadly = place == size - 1 && colour == 0;
                if (colour != (code & 3) && !closesBadly) {
                    grow(place + 1, code << 2 | colour, colour == used ? used + 1 : used);
                }
            }
        }

        private void tabulate(int colouring, int pairing) {
            int many = split(codes[colouring], pairing);
            int at = colouring * PAIRINGS + pairing;
            runCounts[at] = (byte) many;
            int switches = many > 2 ? 1 << many - 2 : 1;
            for (int runs = 0; runs < switches && runs < MOST_SWITCHES; runs++) {
                becomes[at * MOST_SWITCHES + runs] = (byte) find(renamed(turned(codes[colouring], pairing, runs << 2)));
            }
        }

        int colourAt(int code, int place) {
            return code >> 2 * (size - 1 - place) & 3;
        }

        /** COLOURS told by decimal digits as a code; NONE, if they are not COLOURS of so many PLACES. */
        int codeOfDigits(int digits) {
            if (digits < 0) {
                return NONE;
            }
            int left = digits;
            int code = 0;
            for (int i = 0; i < size; i++) {
                int digit = left % 10;
                if (digit >= COLOURS) {
                    return NONE;
                }
                code |= digit << 2 * i;
                left /= 10;
            }
            return left == 0 ? code : NONE;
        }

        /** Which COLOURING a renamed code is; NONE, if it is none. */
        int find(int sought) {
            int from = 0;
            int to = count - 1;
            for (int step = 0; step < MOST_COLOURINGS && from <= to; step++) {
                int middle = (from + to) / 2;
                if (codes[middle] == sought) {
                    return middle;
                }
                if (codes[middle] < sought) {
                    from = middle + 1;
                } else {
                    to = middle - 1;
                }
            }
            return NONE;
        }

        int renamed(int code) {
            int names = 0;
            int known = 0;
            int next = 0;
            int result = 0;
            for (int place = 0; place < size; place++) {
                int colour = code >> 2 * (size - 1 - place) & 3;
                if ((known >> colour & 1) == 0) {
                    known |= 1 << colour;
                    names |= next << 2 * colour;
                    next++;
                }
                result = result << 2 | names >> 2 * colour & 3;
            }
            return result;
        }

        /** Finds the RUN of each PLACE, and answers how many RUNS there are. */
        int split(int code, int pairing) {
            int run = 0;
            boolean wasOfZero = true;
            for (int place = 0; place < size; place++) {
                int colour = code >> 2 * (size - 1 - place) & 3;
                boolean isOfZero = colour == 0 || colour == pairing + 1;
                if (isOfZero != wasOfZero) {
                    run++;
                }
                wasOfZero = isOfZero;
                runAt[place] = run;
            }
            if (run == 0 || !wasOfZero) {
                return run + 1;
            }
            for (int place = size - 1; place >= 0 && runAt[place] == run; place--) {
                runAt[place] = 0;
            }
            return run;
        }

        /** The code split last, with RUNS switched: COLOURS of a pair differ in just the bits of its second one. */
        int turned(int code, int pairing, int runs) {
            int result = code;
            for (int place = 0; place < size; place++) {
                if ((runs >> runAt[place] & 1) != 0) {
                    result ^= pairing + 1 << 2 * (size - 1 - place);
                }
            }
            return result;
        }

        /** In how many ways FENCES can lie, if there are so many RUNS, half of them of the pair of COLOUR 0. */
        static int fenceCount(int runCount) {
            return runCount <= 2 ? 1 : runCount <= 4 ? 2 : 5;
        }

        /** Whether by a PAIRING, whatever the FENCES, some SWITCH leads below a level. */
        boolean leadsBelow(int colouring, byte[] levels, int level) {
            for (int pairing = 0; pairing < PAIRINGS; pairing++) {
                if (leadsBelowBy(colouring * PAIRINGS + pairing, levels, level)) {
                    return true;
                }
            }
            return false;
        }

        private boolean leadsBelowBy(int at, byte[] levels, int level) {
            int many = runCounts[at];
            int[] switches = many <= 2 ? SWITCHES_OF_1 : many <= 4 ? SWITCHES_OF_2 : SWITCHES_OF_3;
            int perFence = many <= 2 ? 1 : many <= 4 ? 2 : 4;
            for (int first = 0; first + perFence <= switches.length; first += perFence) {
                boolean leads = false;
                for (int i = first; i < first + perFence && !leads; i++) {
                    int there = becomes[at * MOST_SWITCHES + switches[i]];
                    leads = there >= 0 && levels[there] >= 0 && levels[there] < level;
                }
                if (!leads) {
                    return false;
                }
            }
            return true;
        }
    }

    /** A HUB and SPOKES in a RING, and what is known of its COLOURINGS once it is studied. */
    private static final class Piece {
        static final int WORDS = 3;

        int hubDegree = 0;
        int spokeCount = 0;
        private final int[] spokes = new int[MOST_HUB];
        int places = 0;
        int vertices = 0;
        final int[] near = new int[MOST_VERTICES];
        int joinCount = 0;
        private final int[] joinedTo = new int[MOST_VERTICES];
        // which VERTICES have each COLOUR, while INNER VERTICES are tried
        private final int[] having = new int[COLOURS];
        boolean isStudied = false;
        final byte[] levels = new byte[MOST_COLOURINGS];
        final int[] extending = new int[WORDS];
        final int[] bad = new int[WORDS];
        final int[] joined = new int[WORDS];
        int rounds = 0;

        void begin(int hub) {
            hubDegree = hub;
            spokeCount = 0;
            joinCount = 0;
            isStudied = false;
        }

        boolean addSpoke(int degree) {
            if (spokeCount >= hubDegree || spokeCount >= MOST_HUB) {
                return false;
            }
            spokes[spokeCount] = degree;
            spokeCount++;
            return true;
        }

        /** Makes VERTICES and edges; false, if the RING would be too large. */
        boolean build() {
            places = placesOfRing();
            if (places > MOST_PLACES) {
                return false;
            }
            vertices = places + 1 + spokeCount;
            Arrays.fill(near, 0);
            Arrays.fill(joinedTo, 0);
            for (int place = 0; place < places; place++) {
                link(place, place + 1 < places ? place + 1 : 0);
            }
            for (int spoke = 0; spoke < spokeCount; spoke++) {
                link(places, places + 1 + spoke);
                if (spoke + 1 < spokeCount) {
                    link(places + 1 + spoke, places + 2 + spoke);
                }
            }
            if (isWheel()) {
                link(places + spokeCount, places + 1);
            }
            linkBorder();
            return true;
        }

        private boolean isWheel() {
            return spokeCount == hubDegree;
        }

        private int placesOfRing() {
            if (spokeCount == 0) {
                return hubDegree;
            }
            int sum = isWheel() ? 0 : hubDegree - spokeCount - 1;
            for (int spoke = 0; spoke < spokeCount; spoke++) {
                sum += edgesToRing(spoke) - 1;
            }
            return sum;
        }

        private int edgesToRing(int spoke) {
            int inner = 1;
            if (spoke > 0 || isWheel()) {
                inner++;
            }
            if (spoke + 1 < spokeCount || isWheel()) {
                inner++;
            }
            return spokes[spoke] - inner;
        }

        private void linkBorder() {
            int first = 0;
            for (int spoke = 0; spoke < spokeCount; spoke++) {
                int many = edgesToRing(spoke);
                linkPlaces(places + 1 + spoke, first, many);
                first += many - 1;
            }
            if (!isWheel()) {
                linkPlaces(places, first, hubDegree - spokeCount);
            }
        }

        private void linkPlaces(int vertex, int first, int many) {
            int place = first;
            for (int i = 0; i < many; i++) {
                if (place >= places) {
                    place = 0;
                }
                link(vertex, place);
                place++;
            }
        }

        private void link(int a, int b) {
            near[a] |= 1 << b;
            near[b] |= 1 << a;
        }

        /** False, if both can't be joined. */
        boolean addJoin(int a, int b) {
            boolean hasEdge = (near[a] >> b & 1) != 0;
            boolean isTold = (joinedTo[a] >> b & 1) != 0;
            if (!hasEdge || isTold || a < places && b < places) {
                return false;
            }
            joinedTo[a] |= 1 << b;
            joinedTo[b] |= 1 << a;
            joinCount++;
            return true;
        }

        int edgeCount() {
            int ends = 0;
            for (int vertex = 0; vertex < vertices; vertex++) {
                ends += Integer.bitCount(near[vertex]);
            }
            return ends / 2;
        }

        boolean isHeldBy(int degree, int[] row) {
            if (degree != hubDegree) {
                return false;
            }
            for (int start = 0; start < degree; start++) {
                if (standsAt(start, 1, degree, row) || standsAt(start, degree - 1, degree, row)) {
                    return true;
                }
            }
            return false;
        }

        private boolean standsAt(int start, int step, int degree, int[] row) {
            int at = start;
            for (int spoke = 0; spoke < spokeCount; spoke++) {
                if (row[at] != spokes[spoke]) {
                    return false;
                }
                at += step;
                if (at >= degree) {
                    at -= degree;
                }
            }
            return true;
        }

        void study(Ring ring) {
            Arrays.fill(extending, 0);
            Arrays.fill(bad, 0);
            Arrays.fill(joined, 0);
            for (int colouring = 0; colouring < ring.count; colouring++) {
                boolean extendsInside = fillRing(ring, ring.codes[colouring], false);
                levels[colouring] = (byte) (extendsInside ? 0 : NONE);
                if (extendsInside) {
                    include(extending, colouring);
                }
                if (joinCount > 0 && fillRing(ring, ring.codes[colouring], true)) {
                    include(joined, colouring);
                }
            }
            rounds = 0;
            for (int level = 1; level <= ring.count && addLevel(ring, level); level++) {
                rounds = level;
            }
            for (int colouring = 0; colouring < ring.count; colouring++) {
                if (levels[colouring] == NONE) {
                    include(bad, colouring);
                }
            }
            isStudied = true;
        }

        private boolean addLevel(Ring ring, int level) {
            boolean some = false;
            for (int colouring = 0; colouring < ring.count; colouring++) {
                if (levels[colouring] == NONE && ring.leadsBelow(colouring, levels, level)) {
                    levels[colouring] = (byte) level;
                    some = true;
                }
            }
            return some;
        }

        private static void include(int[] words, int colouring) {
            words[colouring >> 5] |= 1 << (colouring & 31);
        }

        int sizeOf(int[] words) {
            int size = 0;
            for (int word = 0; word < words.length; word++) {
                size += Integer.bitCount(words[word]);
            }
            return size;
        }

        boolean isD() {
            return sizeOf(bad) == 0;
        }

        boolean isC() {
            if (joinCount == 0 || sizeOf(joined) == 0) {
                return false;
            }
            for (int word = 0; word < WORDS; word++) {
                if ((joined[word] & bad[word]) != 0) {
                    return false;
                }
            }
            return true;
        }

        int firstExtension(Ring ring, int code, int i) {
            if (!fillRing(ring, code, false)) {
                return NONE;
            }
            for (int colour = 0; colour < COLOURS; colour++) {
                if ((having[colour] >> places + i & 1) != 0) {
                    return colour;
                }
            }
            return NONE;
        }

        private boolean fillRing(Ring ring, int code, boolean withJoins) {
            Arrays.fill(having, 0);
            for (int place = 0; place < places; place++) {
                having[ring.colourAt(code, place)] |= 1 << place;
            }
            return fillFrom(places, withJoins);
        }

        /** Gives COLOURS to a VERTEX and all behind it; those that it found stay in 'having'. */
        private boolean fillFrom(int vertex, boolean withJoins) {
            if (vertex >= vertices) {
                return true;
            }
            int bit = 1 << vertex;
            int ahead = near[vertex] & bit - 1;
            int alike = withJoins ? joinedTo[vertex] & bit - 1 : 0;
            for (int colour = 0; colour < COLOURS; colour++) {
                if ((ahead & having[colour]) == alike) {
                    having[colour] |= bit;
                    if (fillFrom(vertex + 1, withJoins)) {
                        return true;
                    }
                    having[colour] &= ~bit;
                }
            }
            return false;
        }
    }

    /** CASES of a HUB, and what RULES and PIECES make of them. */
    private static final class Cases {
        private static final int MOST_CASES = 198;

        // ROWS of each HUB as digits, found once, as they hang on nothing
        private final int[] rows = new int[(MOST_HUB - LEAST_HUB + 1) * MOST_CASES];
        private final int[] rowCounts = new int[MOST_HUB - LEAST_HUB + 1];
        private final int[] row = new int[MOST_HUB];
        final int[] results = new int[6];

        void tally(int hub, Atlas atlas, int[] amounts, int reducible) {
            if (rowCounts[hub - LEAST_HUB] == 0) {
                findRows(hub);
            }
            int many = rowCounts[hub - LEAST_HUB];
            int positive = 0;
            int covered = 0;
            int least = NONE;
            int most = 0;
            for (int i = 0; i < many; i++) {
                int digits = rows[(hub - LEAST_HUB) * MOST_CASES + i];
                takeDigits(digits, hub);
                int charge = atlas.rules.behind(hub, row, amounts);
                most = i == 0 ? charge : Math.max(most, charge);
                if (charge > 0) {
                    positive++;
                    if ((atlas.heldPieces(hub, row) & reducible) != 0) {
                        covered++;
                    } else if (least == NONE) {
                        least = digits;
                    }
                }
            }
            results[0] = many;
            results[1] = positive;
            results[2] = covered;
            results[3] = positive - covered;
            results[4] = least;
            results[5] = most;
        }

        private void findRows(int hub) {
            int many = 0;
            int all = 1;
            for (int i = 0; i < hub; i++) {
                row[i] = 5;
                all *= 3;
            }
            for (int i = 0; i < all; i++) {
                if (isLeast(hub) && many < MOST_CASES) {
                    rows[(hub - LEAST_HUB) * MOST_CASES + many] = digitsOf(hub);
                    many++;
                }
                nextRow(hub);
            }
            rowCounts[hub - LEAST_HUB] = many;
        }

        private void nextRow(int hub) {
            int at = hub - 1;
            while (at >= 0 && row[at] == 7) {
                row[at] = 5;
                at--;
            }
            if (at >= 0) {
                row[at]++;
            }
        }

        private boolean isLeast(int hub) {
            for (int start = 0; start < hub; start++) {
                if (isLess(start, 1, hub) || isLess(start, hub - 1, hub)) {
                    return false;
                }
            }
            return true;
        }

        private boolean isLess(int start, int step, int hub) {
            int at = start;
            for (int i = 0; i < hub; i++) {
                if (row[at] != row[i]) {
                    return row[at] < row[i];
                }
                at += step;
                if (at >= hub) {
                    at -= hub;
                }
            }
            return false;
        }

        private int digitsOf(int hub) {
            int digits = 0;
            for (int i = 0; i < hub; i++) {
                digits = digits * 10 + row[i];
            }
            return digits;
        }

        private void takeDigits(int digits, int hub) {
            int left = digits;
            for (int i = hub - 1; i >= 0; i--) {
                row[i] = left % 10;
                left /= 10;
            }
        }
    }

    /** COLOURS of SPOTS: of each COLOUR, which SPOTS have it, as bits. */
    private static final class Paints {
        static final int PAINT = 0;
        static final int WASH = 1;
        static final int SWAP = 2;

        final int[] having = new int[COLOURS];

        void clear() {
            Arrays.fill(having, 0);
        }

        void copyFrom(Paints other) {
            System.arraycopy(other.having, 0, having, 0, COLOURS);
        }

        int colourAt(int spot) {
            for (int colour = 0; colour < COLOURS; colour++) {
                if ((having[colour] >> spot & 1) != 0) {
                    return colour;
                }
            }
            return NONE;
        }

        private int painted() {
            return having[0] | having[1] | having[2] | having[3];
        }

        boolean isPainted(int spot) {
            return (painted() >> spot & 1) != 0;
        }

        int paintedCount() {
            return Integer.bitCount(painted());
        }

        int unlikeColours() {
            int many = 0;
            for (int colour = 0; colour < COLOURS; colour++) {
                if (having[colour] != 0) {
                    many++;
                }
            }
            return many;
        }

        int freeColours(Atlas map, int spot) {
            int bits = 0;
            for (int colour = 0; colour < COLOURS; colour++) {
                if ((having[colour] & map.near[spot]) == 0) {
                    bits |= 1 << colour;
                }
            }
            return bits;
        }

        boolean mayPaint(Atlas map, int spot, int colour) {
            return isColour(colour) && (painted() >> spot & 1) == 0 && (having[colour] & map.near[spot]) == 0;
        }

        void put(int spot, int colour) {
            having[colour] |= 1 << spot;
        }

        void take(int spot, int colour) {
            having[colour] &= ~(1 << spot);
        }

        /** The CHAIN of a SPOT and a COLOUR, as bits; 0, if there is none. */
        int chainOf(Atlas map, int spot, int colour) {
            int had = colourAt(spot);
            if (had == NONE || had == colour || !isColour(colour)) {
                return 0;
            }
            int both = having[had] | having[colour];
            int bits = 1 << spot;
            int fresh = bits;
            for (int round = 0; round < map.spotCount && fresh != 0; round++) {
                int reached = 0;
                for (int one = 0; one < map.spotCount; one++) {
                    if ((fresh >> one & 1) != 0) {
                        reached |= map.near[one];
                    }
                }
                fresh = reached & both & ~bits;
                bits |= fresh;
            }
            return bits;
        }

        void exchange(int bits, int a, int b) {
            int ofA = having[a] & bits;
            int ofB = having[b] & bits;
            having[a] = having[a] & ~bits | ofB;
            having[b] = having[b] & ~bits | ofA;
        }

        /** Paints, washes or swaps, if it may be; whether it was done. */
        boolean attempt(Atlas map, int deed, int spot, int colour) {
            if (spot < 0 || spot >= map.spotCount) {
                return false;
            }
            int had = colourAt(spot);
            if (deed == PAINT && mayPaint(map, spot, colour)) {
                put(spot, colour);
                return true;
            }
            if (deed == WASH && had != NONE) {
                take(spot, had);
                return true;
            }
            int bits = deed == SWAP ? chainOf(map, spot, colour) : 0;
            if (bits == 0) {
                return false;
            }
            exchange(bits, had, colour);
            return true;
        }
    }

    /** All that an image keeps: COLOURS, AMOUNTS, ACTS and what is NOTED. */
    private static final class State {
        static final int PAINTED = 0;
        static final int WASHED = 1;
        static final int SWAPPED = 2;
        static final int TUNED = 3;

        final Paints paints = new Paints();
        final int[] amounts = new int[MOST_RULES];
        int actCount = 0;
        private final int[] actKinds = new int[MOST_ACTS];
        // a SPOT, the SPOTS of a CHAIN as bits, or a RULE
        private final int[] actPlaces = new int[MOST_ACTS];
        // a COLOUR, both COLOURS of a CHAIN, or the AMOUNT as it was
        private final int[] actValues = new int[MOST_ACTS];
        int noted = 0;
        final int[] notedSpots = new int[MOST_NOTED];
        final int[] notedCharges = new int[MOST_NOTED];

        void begin(Rules rules) {
            paints.clear();
            for (int rule = 0; rule < rules.count; rule++) {
                amounts[rule] = rules.told[rule * Rules.WIDTH];
            }
            actCount = 0;
            noted = 0;
        }

        void copyFrom(State other) {
            paints.copyFrom(other.paints);
            System.arraycopy(other.amounts, 0, amounts, 0, MOST_RULES);
            actCount = other.actCount;
            System.arraycopy(other.actKinds, 0, actKinds, 0, MOST_ACTS);
            System.arraycopy(other.actPlaces, 0, actPlaces, 0, MOST_ACTS);
            System.arraycopy(other.actValues, 0, actValues, 0, MOST_ACTS);
            noted = other.noted;
            System.arraycopy(other.notedSpots, 0, notedSpots, 0, MOST_NOTED);
            System.arraycopy(other.notedCharges, 0, notedCharges, 0, MOST_NOTED);
        }

        void keepAct(int kind, int place, int value) {
            if (actCount >= MOST_ACTS) {
                dropOldestAct();
            }
            actKinds[actCount] = kind;
            actPlaces[actCount] = place;
            actValues[actCount] = value;
            actCount++;
        }

        private void dropOldestAct() {
            System.arraycopy(actKinds, 1, actKinds, 0, MOST_ACTS - 1);
            System.arraycopy(actPlaces, 1, actPlaces, 0, MOST_ACTS - 1);
            System.arraycopy(actValues, 1, actValues, 0, MOST_ACTS - 1);
            actCount = MOST_ACTS - 1;
        }

        void undoLast() {
            if (actCount < 1) {
                return;
            }
            actCount--;
            int place = actPlaces[actCount];
            int value = actValues[actCount];
            switch (actKinds[actCount]) {
                case PAINTED:
                    paints.take(place, value);
                    break;
                case WASHED:
                    paints.put(place, value);
                    break;
                case SWAPPED:
                    paints.exchange(place, value / COLOURS, value % COLOURS);
                    break;
                default:
                    amounts[place] = value;
                    break;
            }
        }

        void keepNote(int spot, int charge) {
            if (noted < MOST_NOTED) {
                notedSpots[noted] = spot;
                notedCharges[noted] = charge;
                noted++;
            }
        }
    }

    /** What is tried on a copy of the MAP's COLOURS. */
    private static final class Search {
        private static final int MOST_UNPAINTED = 4;
        private static final int MOST_SWAPS = 2;

        final Paints work = new Paints();
        int fewest = NONE;
        int winner = NONE;
        int firstMove = NONE;

        void begin(Paints paints) {
            work.copyFrom(paints);
        }

        /** Paints all in the first way; whether there is one. */
        boolean paintAll(Atlas map) {
            return firstWay(map, 0);
        }

        int allWays(Atlas map) {
            return countWays(map, 0);
        }

        private boolean firstWay(Atlas map, int spot) {
            if (spot >= map.spotCount) {
                return true;
            }
            if (work.isPainted(spot)) {
                return firstWay(map, spot + 1);
            }
            for (int colour = 0; colour < COLOURS; colour++) {
                if ((work.having[colour] & map.near[spot]) == 0) {
                    work.put(spot, colour);
                    if (firstWay(map, spot + 1)) {
                        return true;
                    }
                    work.take(spot, colour);
                }
            }
            return false;
        }

        private int countWays(Atlas map, int spot) {
            if (spot >= map.spotCount) {
                return 1;
            }
            if (work.isPainted(spot)) {
                return countWays(map, spot + 1);
            }
            int sum = 0;
            // COLOURS that no SPOT has are alike, so that one of them is counted for all
            int ofUnused = NONE;
            for (int colour = 0; colour < COLOURS; colour++) {
                boolean isUnused = work.having[colour] == 0;
                if (isUnused && ofUnused != NONE) {
                    sum += ofUnused;
                } else if ((work.having[colour] & map.near[spot]) == 0) {
                    work.put(spot, colour);
                    int many = countWays(map, spot + 1);
                    work.take(spot, colour);
                    sum += many;
                    ofUnused = isUnused ? many : ofUnused;
                }
            }
            return sum;
        }

        void seekFree(Atlas map, int spot) {
            fewest = NONE;
            firstMove = NONE;
            if (work.isPainted(spot)) {
                return;
            }
            for (int swaps = 0; swaps <= MOST_SWAPS && fewest == NONE; swaps++) {
                if (isFreedBy(map, spot, swaps)) {
                    fewest = swaps;
                }
            }
        }

        /** Whether so many SWAPS free a COLOUR; the first of the first row of them is left as first move. */
        private boolean isFreedBy(Atlas map, int spot, int swaps) {
            if (swaps <= 0) {
                return work.freeColours(map, spot) != 0;
            }
            for (int one = 0; one < map.spotCount; one++) {
                for (int colour = 0; colour < COLOURS; colour++) {
                    int had = work.colourAt(one);
                    int bits = work.chainOf(map, one, colour);
                    if (bits != 0) {
                        work.exchange(bits, had, colour);
                        boolean isFreed = isFreedBy(map, spot, swaps - 1);
                        work.exchange(bits, had, colour);
                        if (isFreed) {
                            firstMove = 10 * one + colour;
                            return true;
                        }
                    }
                }
            }
            return false;
        }

        void playGame(Atlas map) {
            winner = NONE;
            firstMove = NONE;
            int unpainted = map.spotCount - work.paintedCount();
            if (unpainted <= MOST_UNPAINTED) {
                winner = isWonByFirst(map, 0, unpainted) ? 1 : 2;
            }
        }

        /** Whether the first painter wins behind so many moves; its first move is kept, if this is the beginning. */
        private boolean isWonByFirst(Atlas map, int moves, int unpainted) {
            if (unpainted <= 0) {
                return true;
            }
            boolean isTurnOfFirst = moves % 2 == 0;
            boolean canGoOn = false;
            for (int spot = 0; spot < map.spotCount; spot++) {
                for (int colour = 0; colour < COLOURS; colour++) {
                    if (work.mayPaint(map, spot, colour)) {
                        canGoOn = true;
                        work.put(spot, colour);
                        boolean isWon = isWonByFirst(map, moves + 1, unpainted - 1);
                        work.take(spot, colour);
                        if (isWon == isTurnOfFirst) {
                            firstMove = moves == 0 ? 10 * spot + colour : firstMove;
                            return isWon;
                        }
                    }
                }
            }
            return canGoOn && !isTurnOfFirst;
        }

        /** Lets years go by on the copy; how often something was done. */
        int liveYears(Atlas map, int seed, int years) {
            int done = 0;
            int now = seed;
            for (int year = 0; year < years && map.spotCount > 0; year++) {
                now = stirred(now);
                int deed = drawn(now, 3);
                now = stirred(now);
                int spot = drawn(now, map.spotCount);
                now = stirred(now);
                if (work.attempt(map, deed, spot, drawn(now, COLOURS))) {
                    done++;
                }
            }
            return done;
        }

        private static int stirred(int seed) {
            return seed * 1103515245 + 12345;
        }

        private static int drawn(int seed, int n) {
            return n > 0 ? (seed >> 16 & 32767) % n : 0;
        }
    }

    /** A PLAN that is tried on SHEETS over the MAP. */
    private static final class Plan {
        private static final int SHEET = 3;
        private static final int OFF = 4;

        private final Paints top = new Paints();
        // what lies under each SHEET, and its number
        private final int[] under = new int[MOST_SHEETS * COLOURS];
        private final int[] numbers = new int[MOST_SHEETS];
        int lying = 0;
        int laidEver = 0;
        int lastOff = NONE;
        private boolean isTold = false;
        int steps = 0;
        private int brokeAt = NONE;
        private int paintedAtEnd = 0;
        private int mostSheets = 0;
        private int takenAtEnd = 0;

        void forgetTold() {
            isTold = false;
            lastOff = NONE;
        }

        int toldOf(int what) {
            if (!isTold) {
                return NONE;
            }
            switch (what) {
                case 0: return brokeAt;
                case 1: return paintedAtEnd;
                case 2: return mostSheets;
                default: return takenAtEnd;
            }
        }

        void run(Tokens tokens, Atlas map, Paints paints) {
            top.copyFrom(paints);
            isTold = true;
            steps = 0;
            brokeAt = NONE;
            mostSheets = 0;
            lay();
            tokens.advance();
            for (int i = 0; i <= MOST_BYTES && tokens.kind != Tokens.END && brokeAt == NONE; i++) {
                brokeAt = takeStep(tokens, map);
                if (brokeAt == NONE) {
                    steps++;
                    tokens.advance();
                }
            }
            paintedAtEnd = top.paintedCount();
            takeAllOff();
        }

        /** Does the STEP whose first TOKEN was read; where it breaks off, or NONE. */
        private int takeStep(Tokens tokens, Atlas map) {
            int first = tokens.start;
            int deed = deedOf(tokens);
            if (deed == NONE) {
                return first;
            }
            int spot = 0;
            int colour = 0;
            int many = numbersOf(deed);
            for (int i = 0; i < many; i++) {
                tokens.advance();
                if (tokens.kind != Tokens.NUMBER || tokens.value == Tokens.TOO_LONG) {
                    return tokens.start;
                }
                if (i == 0) {
                    spot = tokens.value;
                } else {
                    colour = tokens.value;
                }
            }
            tokens.advance();
            if (tokens.kind != Tokens.SEMICOLON) {
                return tokens.start;
            }
            return perform(map, deed, spot, colour) ? NONE : first;
        }

        private static int deedOf(Tokens tokens) {
            if (tokens.isWord("paint")) {
                return Paints.PAINT;
            }
            if (tokens.isWord("wash")) {
                return Paints.WASH;
            }
            if (tokens.isWord("swap")) {
                return Paints.SWAP;
            }
            if (tokens.isWord("sheet")) {
                return SHEET;
            }
            return tokens.isWord("off") ? OFF : NONE;
        }

        private static int numbersOf(int deed) {
            if (deed == Paints.PAINT || deed == Paints.SWAP) {
                return 2;
            }
            return deed == Paints.WASH ? 1 : 0;
        }

        private boolean perform(Atlas map, int deed, int spot, int colour) {
            if (deed == SHEET) {
                return lay();
            }
            if (deed == OFF) {
                if (lying <= 1) {
                    return false;
                }
                takeOff();
                return true;
            }
            return top.attempt(map, deed, spot, colour);
        }

        private boolean lay() {
            if (lying >= MOST_SHEETS) {
                return false;
            }
            System.arraycopy(top.having, 0, under, lying * COLOURS, COLOURS);
            numbers[lying] = laidEver;
            laidEver++;
            lying++;
            mostSheets = Math.max(mostSheets, lying);
            return true;
        }

        private void takeOff() {
            if (lying < 1) {
                return;
            }
            lying--;
            System.arraycopy(under, lying * COLOURS, top.having, 0, COLOURS);
            lastOff = numbers[lying];
        }

        private void takeAllOff() {
            takenAtEnd = 0;
            for (int i = 0; i < MOST_SHEETS && lying > 0; i++) {
                takeOff();
                takenAtEnd = takenAtEnd * 10 + lastOff % 10;
            }
        }
    }
}
