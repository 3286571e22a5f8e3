import java.io.IOException;
import java.lang.reflect.Constructor;
import java.lang.reflect.Field;
import java.lang.reflect.Member;
import java.lang.reflect.Method;
import java.lang.reflect.Modifier;
import java.nio.charset.StandardCharsets;
import java.nio.file.Files;
import java.nio.file.Path;
import java.util.ArrayList;
import java.util.Arrays;
import java.util.List;
import java.util.Set;
import java.util.TreeSet;

/** The public face, and those rules of LANGUAGE.md that can be looked at from here. */
public final class LanguageTest {
    private static final Check CHECK = new Check("LanguageTest");
    private static final String FACE = "feed/5 atlas/1! fault/0 count/1 piece/2 vertex/2 colour/3 named/2 level/2 extend/3 "
        + "runs/4 switched/4 set/3 sends/4 hub/3 cases/2 spot/2 scaled/2 rule/2 paint/2 wash/1 swap/2 tune/2 undo/0 chain/2 "
        + "solve/1 ways/0 free/2 play/1 plan/1! planned/1 note/2 forget/0 meant/1 years/3 image/0 restore/0";

    private static void isTrue(String what, boolean got) {
        CHECK.due(what, got ? 1 : 0, 1);
    }

    private static void face() throws ReflectiveOperationException {
        Set<String> want = new TreeSet<>(Arrays.asList(FACE.replace("!", "").split(" ")));
        Set<String> got = new TreeSet<>();
        for (Method m : MapPieces.class.getDeclaredMethods()) {
            if (Modifier.isPublic(m.getModifiers())) {
                got.add(m.getName() + "/" + m.getParameterCount());
                isTrue(m.getName() + " takes ints", Arrays.stream(m.getParameterTypes()).allMatch(t -> t == int.class));
            }
        }
        isTrue("the methods of the face: " + got, got.equals(want));
        isTrue("a final class", Modifier.isFinal(MapPieces.class.getModifiers()));
        isTrue("a public constructor", Modifier.isPublic(MapPieces.class.getDeclaredConstructor().getModifiers()));
        isTrue("forget", MapPieces.class.getMethod("forget").getReturnType() == void.class);
        isTrue("image", MapPieces.class.getMethod("image").getReturnType() == void.class);
        isTrue("restore", MapPieces.class.getMethod("restore").getReturnType() == boolean.class);
        CHECK.due("NONE", MapPieces.NONE, -1);
        for (Field f : MapPieces.class.getDeclaredFields()) {
            isTrue("field " + f.getName(), f.getName().equals("NONE") || Modifier.isPrivate(f.getModifiers()));
        }
    }

    private static void classes() {
        Set<String> names = new TreeSet<>();
        for (String one : FACE.split(" ")) {
            names.add(one.replaceAll("/.*", ""));
        }
        List<Class<?>> all = new ArrayList<>(List.of(MapPieces.class));
        all.addAll(List.of(MapPieces.class.getDeclaredClasses()));
        isTrue("at most twelve classes", all.size() <= 12);
        for (Class<?> c : all) {
            if (c != MapPieces.class) {
                isTrue(c + " is static", Modifier.isStatic(c.getModifiers()));
                isTrue(c + " is hidden", !Modifier.isPublic(c.getModifiers()) && !Modifier.isProtected(c.getModifiers()));
            }
            int fields = 0;
            for (Field f : c.getDeclaredFields()) {
                boolean isStatic = Modifier.isStatic(f.getModifiers());
                fields += isStatic ? 0 : 1;
                isTrue(c + " static field " + f.getName(), !isStatic || Modifier.isFinal(f.getModifiers()));
            }
            isTrue(c + " has at most twenty fields", fields <= 20);
            for (Method m : c.getDeclaredMethods()) {
                boolean isFace = c == MapPieces.class && Modifier.isPublic(m.getModifiers());
                isTrue(c + "." + m.getName() + " is named like the face", isFace || !names.contains(m.getName()));
                isTrue(c + "." + m.getName() + " takes at most seven", m.getParameterCount() <= 7);
                isTrue(c + "." + m.getName() + " is visible", isFace || hidden(c, m));
            }
            for (Constructor<?> k : c.getDeclaredConstructors()) {
                isTrue(c + " constructor", k.getParameterCount() <= 7);
            }
        }
    }

    private static boolean hidden(Class<?> c, Member m) {
        return c != MapPieces.class || Modifier.isPrivate(m.getModifiers());
    }

    private static void text() throws IOException {
        String text = Files.readString(Path.of("src/main/java/MapPieces.java"), StandardCharsets.ISO_8859_1);
        for (String no : List.of("->", "::", "finally", "synchronized", "assert ", "Exact", "try ", "catch", "hashCode",
                "toString", "record ", "double", "float", "System.out", "System.nano", "Random", "package ", "\" +", "+ \"")) {
            isTrue("no '" + no + "'", !text.contains(no));
        }
        isTrue("signs 1 to 127", text.chars().allMatch(c -> c > 0 && c < 128));
        isTrue("lines of at most 120 signs", text.lines().allMatch(line -> line.length() <= 120));
        List<String> imports = text.lines().filter(line -> line.startsWith("import ")).toList();
        isTrue("imports", imports.equals(List.of("import java.util.Arrays;", "import java.util.NoSuchElementException;")));
        text.lines().filter(line -> line.contains("throw new ")).forEach(line ->
            isTrue(line, line.matches(".*throw new (NoSuchElement|IllegalArgument|Arithmetic)Exception\\(\\);")));
        methodLengths(text.lines().toList());
    }

    private static void methodLengths(List<String> lines) {
        int begun = -1;
        String indent = "";
        for (int i = 0; i < lines.size(); i++) {
            String line = lines.get(i);
            if (begun < 0 && line.matches("(    |        )[a-zA-Z].*\\(.*\\).*\\{") && !line.contains(" class ")) {
                begun = i;
                indent = line.replaceAll("[^ ].*", "");
            } else if (begun >= 0 && line.equals(indent + "}")) {
                isTrue("length of " + lines.get(begun).trim(), i - begun <= 60);
                begun = -1;
            }
        }
    }

    public static void main(String[] args) throws IOException, ReflectiveOperationException {
        face();
        classes();
        text();
        CHECK.end();
    }
}
