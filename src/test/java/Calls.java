/** Calls by name, so that tests can tell them as rows of words. */
final class Calls {
    private Calls() {
    }

    static long on(MapPieces x, String name, int... a) {
        switch (name) {
            case "feed": return x.feed(a[0], a[1], a[2], a[3], a[4]);
            case "atlas": return x.atlas(a[0]);
            case "fault": return x.fault();
            case "count": return x.count(a[0]);
            case "piece": return x.piece(a[0], a[1]);
            case "vertex": return x.vertex(a[0], a[1]);
            case "colour": return x.colour(a[0], a[1], a[2]);
            case "named": return x.named(a[0], a[1]);
            case "level": return x.level(a[0], a[1]);
            case "extend": return x.extend(a[0], a[1], a[2]);
            case "runs": return x.runs(a[0], a[1], a[2], a[3]);
            case "switched": return x.switched(a[0], a[1], a[2], a[3]);
            case "set": return x.set(a[0], a[1], a[2]);
            case "sends": return x.sends(a[0], a[1], a[2], a[3]);
            case "hub": return x.hub(a[0], a[1], a[2]);
            case "cases": return x.cases(a[0], a[1]);
            case "spot": return x.spot(a[0], a[1]);
            case "scaled": return x.scaled(a[0], a[1]);
            case "rule": return x.rule(a[0], a[1]);
            case "paint": return x.paint(a[0], a[1]);
            case "wash": return x.wash(a[0]);
            case "swap": return x.swap(a[0], a[1]);
            case "tune": return x.tune(a[0], a[1]);
            case "undo": return x.undo();
            case "chain": return x.chain(a[0], a[1]);
            case "solve": return x.solve(a[0]);
            case "ways": return x.ways();
            case "free": return x.free(a[0], a[1]);
            case "play": return x.play(a[0]);
            case "plan": return x.plan(a[0]);
            case "planned": return x.planned(a[0]);
            case "note": return x.note(a[0], a[1]);
            case "forget": x.forget(); return 0;
            case "meant": return x.meant(a[0]);
            case "years": return x.years(a[0], a[1], a[2]);
            case "image": x.image(); return 0;
            case "restore": return x.restore() ? 1 : 0;
            default: throw new IllegalStateException("no call " + name);
        }
    }

    /** The answer, or the name of what was thrown. */
    static String answer(MapPieces x, String name, int... args) {
        return answer(() -> on(x, name, args));
    }

    static String answer(Check.Call call) {
        long[] got = new long[1];
        String thrown = Check.thrownBy(() -> got[0] = call.answer());
        return thrown.equals("nothing") ? Long.toString(got[0]) : thrown;
    }

    /** The numbers of twenty bytes of a text, of each number the highest byte first; blanks behind its end. */
    static int[] numbersOf(String text, int from) {
        int[] n = new int[5];
        for (int i = 0; i < 20; i++) {
            char sign = from + i < text.length() ? text.charAt(from + i) : ' ';
            n[i / 4] = n[i / 4] << 8 | sign & 255;
        }
        return n;
    }
}
