import java.util.ArrayList;
import java.util.List;
import java.util.Random;

/** Texts of atlases and plans, made by a seed: mostly good ones, some with a fault. */
final class Texts {
    static final String ICOSAHEDRON = "spot 1 2 3 4 5;spot 0 5 6 7 2;spot 0 1 7 8 3;spot 0 2 8 9 4;spot 0 3 9 10 5;"
        + "spot 0 4 10 6 1;spot 1 5 10 11 7;spot 1 6 11 8 2;spot 2 7 11 9 3;spot 3 8 11 10 4;spot 4 9 11 6 5;"
        + "spot 6 10 9 8 7;";
    static final String TETRAHEDRON = "spot 1 2 3;spot 0 3 2;spot 0 1 3;spot 0 2 1;";

    /** Spots 0 and 1 over a row of n round them: all degrees 4, but both of n. */
    static String tops(int n) {
        StringBuilder text = new StringBuilder("spot");
        for (int i = 2; i < n + 2; i++) {
            text.append(' ').append(i);
        }
        text.append(";spot");
        for (int i = n + 1; i > 1; i--) {
            text.append(' ').append(i);
        }
        text.append(';');
        for (int i = 0; i < n; i++) {
            text.append("spot 0 ").append(2 + (i + n - 1) % n).append(" 1 ").append(2 + (i + 1) % n).append(';');
        }
        return text.toString();
    }

    private final Random random;

    Texts(Random random) {
        this.random = random;
    }

    private int below(int n) {
        return random.nextInt(n);
    }

    private int from(int low, int high) {
        return low + below(high - low + 1);
    }

    /** Text of the rotations that faces (all turning one way) make. */
    static String spotsOf(List<int[]> faces, int spots, Random random) {
        StringBuilder text = new StringBuilder();
        for (int u = 0; u < spots; u++) {
            int[] next = new int[spots];
            java.util.Arrays.fill(next, -1);
            int degree = 0;
            int some = -1;
            for (int[] f : faces) {
                for (int k = 0; k < 3; k++) {
                    if (f[k] == u) {
                        next[f[(k + 1) % 3]] = f[(k + 2) % 3];
                        degree++;
                        if (some < 0 || random.nextInt(3) == 0) {
                            some = f[(k + 1) % 3];
                        }
                    }
                }
            }
            text.append("spot");
            for (int k = 0, v = some; k < degree; k++, v = next[v]) {
                text.append(' ').append(v);
            }
            text.append(';');
        }
        return text.toString();
    }

    private static int degree(List<int[]> faces, int u) {
        int n = 0;
        for (int[] f : faces) {
            n += f[0] == u || f[1] == u || f[2] == u ? 1 : 0;
        }
        return n;
    }

    private static boolean adjacent(List<int[]> faces, int a, int b) {
        for (int[] f : faces) {
            if ((f[0] == a || f[1] == a || f[2] == a) && (f[0] == b || f[1] == b || f[2] == b)) {
                return true;
            }
        }
        return false;
    }

    private void split(List<int[]> faces, int fresh) {
        for (int tries = 0; tries < 100; tries++) {
            int i = below(faces.size());
            int[] f = faces.get(i);
            if (degree(faces, f[0]) < 9 && degree(faces, f[1]) < 9 && degree(faces, f[2]) < 9) {
                faces.remove(i);
                faces.add(new int[] {f[0], f[1], fresh});
                faces.add(new int[] {f[1], f[2], fresh});
                faces.add(new int[] {f[2], f[0], fresh});
                return;
            }
        }
    }

    private void flip(List<int[]> faces) {
        int i = below(faces.size());
        int[] f = faces.get(i);
        int k = below(3);
        int a = f[k];
        int b = f[(k + 1) % 3];
        int c = f[(k + 2) % 3];
        for (int j = 0; j < faces.size(); j++) {
            int[] g = faces.get(j);
            for (int m = 0; m < 3; m++) {
                if (g[m] == b && g[(m + 1) % 3] == a) {
                    int d = g[(m + 2) % 3];
                    boolean may = c != d && !adjacent(faces, c, d) && degree(faces, a) > 3 && degree(faces, b) > 3
                        && degree(faces, c) < 9 && degree(faces, d) < 9;
                    if (may) {
                        faces.set(i, new int[] {c, a, d});
                        faces.set(j, new int[] {d, b, c});
                    }
                    return;
                }
            }
        }
    }

    private int sphere(List<int[]> faces, int first, int spots) {
        List<int[]> own = new ArrayList<>();
        own.add(new int[] {first, first + 1, first + 2});
        own.add(new int[] {first, first + 2, first + 3});
        own.add(new int[] {first, first + 3, first + 1});
        own.add(new int[] {first + 1, first + 3, first + 2});
        for (int s = 4; s < spots; s++) {
            int faceCount = own.size();
            split(own, first + s);
            if (own.size() == faceCount) {
                faces.addAll(own);
                return first + s;
            }
            for (int k = below(20); k > 0; k--) {
                flip(own);
            }
        }
        faces.addAll(own);
        return first + spots;
    }

    String map() {
        switch (below(8)) {
            case 0:
                return ICOSAHEDRON;
            case 1:
                return below(2) == 0 ? "" : TETRAHEDRON;
            default:
                List<int[]> faces = new ArrayList<>();
                int spots;
                if (below(5) == 0) {
                    spots = sphere(faces, 0, from(4, 8));
                    spots = sphere(faces, spots, 4);
                } else if (below(8) == 0) {
                    for (int i = 0; i < 7; i++) {
                        faces.add(new int[] {i, (i + 1) % 7, (i + 3) % 7});
                        faces.add(new int[] {i, (i + 3) % 7, (i + 2) % 7});
                    }
                    spots = 7;
                } else {
                    spots = sphere(faces, 0, from(5, 12));
                }
                return spotsOf(faces, spots, random);
        }
    }

    private static final String[] PIECES = {"5", "6", "7", "5 5", "5 6", "6 5", "5 5 5", "5 5 5 5", "5 5 5 6", "5 6 5 5",
        "5 5 5 5 5", "5 5 5 5 5 5", "6 5 5", "6 5 5 5", "6 5 5 5 5", "6 5 5 5 5 5", "6 5 5 5 5 5 5", "7 5 5 5 5 5 5 5",
        "5 5 5 5 5 7", "5 6 5 5 5 6", "6 6 5 5 5 5 5", "5 6 5 6", "5 5 6", "5 5 5 5 6", "5 5 6 5"};

    String piece() {
        if (below(5) > 0) {
            return "piece " + PIECES[below(PIECES.length)] + ";";
        }
        int hub = from(5, 7);
        StringBuilder text = new StringBuilder("piece " + hub);
        for (int k = below(hub + 1); k > 0; k--) {
            text.append(' ').append(below(4) > 0 ? 5 : 6);
        }
        return text.append(';').toString();
    }

    String join(int vertices) {
        return "join " + below(vertices) + " " + from(5, vertices) + ";";
    }

    private String range() {
        int low = from(3, 8);
        return low + " " + from(low, 9);
    }

    String rule() {
        String text = "rule " + from(1, below(3) == 0 ? 99 : 9) + " from " + range() + " to " + range();
        int beside = below(3);
        return text + (beside == 0 ? "" : (beside == 1 ? " with " : " both ") + range()) + ";";
    }

    /** A text of an atlas, of at most 700 signs. */
    String atlas() {
        StringBuilder text = new StringBuilder();
        for (int k = below(4); k > 0; k--) {
            text.append(piece());
            for (int j = below(3); j > 0 && below(2) == 0; j--) {
                text.append(join(10));
            }
        }
        for (int k = below(5); k > 0; k--) {
            text.append(rule());
        }
        text.append(map());
        String result = below(3) == 0 ? spoiled(text.toString()) : text.toString();
        return result.length() > 700 ? result.substring(0, 700) : result;
    }

    private static final String[] BITS = {";", " ", "5", "12", "0", "00005", "12345", "piece", "join", "rule", "spot",
        "from", "to", "with", "both", "x", "!", "\n", "3", "9", "10", "piece 5;", "join 0 5;", "join 5 6;", "\t", "A",
        "" + (char) 233, "rule 5 from 5 5 to 6 9;", "spot 0 1 2;", "sheet", "off", "paint", "sheet;", "off;", "paint 0 0;"};

    String spoiled(String good) {
        StringBuilder text = new StringBuilder(good);
        for (int k = from(1, 2); k > 0; k--) {
            int at = below(text.length() + 1);
            switch (below(3)) {
                case 0:
                    text.insert(at, BITS[below(BITS.length)]);
                    break;
                case 1:
                    text.delete(at, Math.min(text.length(), at + from(1, 3)));
                    break;
                default:
                    text.replace(at, Math.min(text.length(), at + 1), BITS[below(BITS.length)]);
                    break;
            }
        }
        return text.toString();
    }

    String plan(int spots) {
        StringBuilder text = new StringBuilder();
        for (int k = below(14); k > 0; k--) {
            int spot = below(Math.max(1, spots));
            switch (below(7)) {
                case 0:
                    text.append("wash ").append(spot).append(';');
                    break;
                case 1:
                    text.append("swap ").append(spot).append(' ').append(below(4)).append(";\n");
                    break;
                case 2:
                    text.append("sheet;");
                    break;
                case 3:
                    text.append("off ;");
                    break;
                default:
                    text.append("paint ").append(spot).append(' ').append(below(4)).append("; ");
                    break;
            }
        }
        return below(4) == 0 ? spoiled(text.toString()) : text.toString();
    }
}
