import java.io.IOException;
import java.lang.reflect.Constructor;
import java.lang.reflect.Field;
import java.lang.reflect.Method;
import java.lang.reflect.Modifier;
import java.nio.file.Files;
import java.nio.file.Path;
import java.util.ArrayList;
import java.util.Arrays;
import java.util.List;
import java.util.TreeSet;
import java.util.regex.Matcher;
import java.util.regex.Pattern;

/** The class has the document's face and no other, and its source keeps to those rules of LANGUAGE.md that a search can see. */
public final class FaceTest {
    private static final Path SOURCE = Path.of("src/main/java/UnderTheRope.java");
    private static final Path DOCUMENT = Path.of("../shared/DOC.md");
    private static final String[] FACE = {
        "write 1", "wipe 0", "fault 0", "lay 0", "boat 2", "where 3", "there 2", "stands 2", "yields 2", "meetings 1",
        "meeting 3", "load 2", "later 2", "undo 0", "who 3", "best 1", "custom 0", "send 3", "swap 2", "fall 3",
        "caught 4", "rests 3", "seen 2", "forget 0", "fits 0", "starts 2", "bears 2", "day 3", "keep 0", "back 0", "count 1"};
    private static int wrong = 0;

    public static void main(String[] args) throws IOException {
        methods();
        asTheDocumentTells(Files.readString(DOCUMENT));
        fields();
        constructors();
        nestedClasses();
        source(withoutTexts(Files.readString(SOURCE)));
        System.out.println(wrong == 0 ? "the face is as due" : wrong + " faults of the face");
        if (wrong != 0) {
            System.exit(1);
        }
    }

    private static void check(boolean holds, String what) {
        if (!holds) {
            wrong++;
            System.out.println(what);
        }
    }

    private static void methods() {
        TreeSet<String> found = new TreeSet<>();
        TreeSet<String> names = new TreeSet<>();
        for (Method m : UnderTheRope.class.getDeclaredMethods()) {
            if (Modifier.isPrivate(m.getModifiers())) {
                continue;
            }
            check(Modifier.isPublic(m.getModifiers()) && !Modifier.isStatic(m.getModifiers()), "not of the face: " + m);
            check(m.getReturnType() == int.class, "answers no int: " + m);
            check(Arrays.stream(m.getParameterTypes()).allMatch(t -> t == int.class), "takes other than int: " + m);
            found.add(m.getName() + " " + m.getParameterCount());
            names.add(m.getName());
        }
        check(found.equals(new TreeSet<>(Arrays.asList(FACE))), "the methods are " + found);
        List<Class<?>> all = new ArrayList<>(Arrays.asList(UnderTheRope.class.getDeclaredClasses()));
        for (Class<?> c : all) {
            for (Method m : c.getDeclaredMethods()) {
                check(!names.contains(m.getName()), "bears the name of a public one: " + m);
                check(m.getParameterCount() <= 7, "more than seven parameters: " + m);
            }
        }
        for (Method m : UnderTheRope.class.getDeclaredMethods()) {
            check(!Modifier.isPrivate(m.getModifiers()) || !names.contains(m.getName()), "bears the name of a public one: " + m);
        }
    }

    /** Each line of the document's face, with the names of the parameters, stands so in the source; FACE has as many. */
    private static void asTheDocumentTells(String document) throws IOException {
        String code = Files.readString(SOURCE).replaceAll("\\s+", " ");
        Matcher told = Pattern.compile("(?m)^    (public int (\\w+)\\(([^)]*)\\));$").matcher(document);
        TreeSet<String> found = new TreeSet<>();
        while (told.find()) {
            int parameters = told.group(3).isEmpty() ? 0 : told.group(3).split(",").length;
            found.add(told.group(2) + " " + parameters);
            check(code.contains(told.group(1) + " {"), "not in the source: " + told.group(1));
        }
        check(found.equals(new TreeSet<>(Arrays.asList(FACE))), "the document's methods are " + found);
        check(code.contains("public static final int BAD = -1, NO = -2, FULL = -3, NONE = -4;"), "the constants are not as told");
    }

    private static void fields() {
        TreeSet<String> open = new TreeSet<>();
        for (Field f : UnderTheRope.class.getDeclaredFields()) {
            int mods = f.getModifiers();
            check(!Modifier.isStatic(mods) || Modifier.isFinal(mods), "static and not final: " + f);
            if (!Modifier.isPrivate(mods)) {
                open.add(f.getName());
                check(Modifier.isPublic(mods) && Modifier.isStatic(mods) && f.getType() == int.class, "not of the face: " + f);
            }
        }
        check(open.equals(new TreeSet<>(List.of("BAD", "NO", "FULL", "NONE"))), "the constants are " + open);
        check(UnderTheRope.BAD == -1 && UnderTheRope.NO == -2 && UnderTheRope.FULL == -3 && UnderTheRope.NONE == -4,
            "the constants are others");
    }

    private static void constructors() {
        Constructor<?>[] all = UnderTheRope.class.getDeclaredConstructors();
        check(all.length == 1 && Modifier.isPublic(all[0].getModifiers()) && all[0].getParameterCount() == 0,
            "not one public constructor");
        int mods = UnderTheRope.class.getModifiers();
        check(Modifier.isPublic(mods) && Modifier.isFinal(mods), "the class is not public and final");
    }

    private static void nestedClasses() {
        Class<?>[] all = UnderTheRope.class.getDeclaredClasses();
        check(all.length <= 11, "more than twelve classes");
        for (Class<?> c : all) {
            int mods = c.getModifiers();
            check(Modifier.isStatic(mods) && !Modifier.isPublic(mods) && !Modifier.isProtected(mods), "not static, or open: " + c);
            long fields = Arrays.stream(c.getDeclaredFields()).filter(f -> !Modifier.isStatic(f.getModifiers())).count();
            check(fields <= 20, "more than twenty fields: " + c);
            check(c.getDeclaredClasses().length == 0, "a class inside a class inside: " + c);
        }
    }

    private static String withoutTexts(String source) {
        return source.replaceAll("(?s)/\\*.*?\\*/", "").replaceAll("//[^\n]*", "").replaceAll("\"[^\"\n]*\"", "\"\"");
    }

    private static void source(String code) {
        String[] banned = {"throw", "throws", "try", "catch", "finally", "synchronized", "assert", "import", "package", "->", "::",
            "Exact", "Thread", "Random", "currentTimeMillis", "nanoTime", "System\\.(?!arraycopy)", "hashCode", "toString",
            "double", "float", "protected", "volatile", "native"};
        for (String word : banned) {
            Matcher m = Pattern.compile(Character.isLetter(word.charAt(0)) ? "\\b" + word : word).matcher(code);
            check(!m.find(), "the source has " + word);
        }
        // What the program takes of the library; a name that LANGUAGE.md lists may be added here.
        Matcher library = Pattern.compile("\\b([A-Z][a-z]\\w*\\.\\w+)").matcher(code);
        while (library.find()) {
            check(List.of("Math.max", "Math.min", "System.arraycopy").contains(library.group(1)), "the source has " + library.group(1));
        }
        check(code.chars().allMatch(c -> c == '\n' || c >= 32 && c < 127), "a sign beyond ASCII");
        // Rows are made in the constructors and used again: no call makes an object.
        for (String line : code.split("\n")) {
            check(!line.contains("new ") || line.contains("final "), "an object made by a call: " + line.trim());
        }
        methodLengths(code.split("\n"));
    }

    private static void methodLengths(String[] lines) {
        int begin = -1;
        String indent = "";
        for (int k = 0; k < lines.length; k++) {
            if (begin < 0 && lines[k].matches(" {4,8}[a-zA-Z].*\\) \\{") && !lines[k].contains(" class ")) {
                begin = k;
                indent = lines[k].replaceAll("[^ ].*", "");
            } else if (begin >= 0 && lines[k].equals(indent + "}")) {
                check(k - begin < 60, "a long method: " + lines[begin].trim());
                begin = -1;
            }
        }
    }
}
