import java.io.File;
import java.io.IOException;
import java.lang.reflect.Method;
import java.lang.reflect.Modifier;
import java.nio.file.Files;
import java.nio.file.Path;
import java.util.TreeSet;
import java.util.regex.Matcher;
import java.util.regex.Pattern;

/** What README.md says of the calls is what they answer, and it leaves out no call and no test. */
public final class ReadmeTest {
    private static final Pattern BLOCK = Pattern.compile("```java\n(.*?)```", Pattern.DOTALL);
    private static final Pattern CALL = Pattern.compile("x\\.(\\w+)\\(([-0-9, ]*)\\);\\s*// (-?\\d+|BAD|NO|FULL|NONE)\\b.*");
    private static final Pattern WRITING = Pattern.compile("for \\(char c : \"(.*)\"\\.toCharArray\\(\\)\\) x\\.write\\(c\\);");
    private static final TreeSet<String> called = new TreeSet<>();

    public static void main(String[] args) throws IOException, ReflectiveOperationException {
        String page = Files.readString(Path.of("README.md"));
        UnderTheRope x = null;
        Matcher block = BLOCK.matcher(page);
        while (block.find()) {
            for (String line : block.group(1).split("\n")) {
                x = line.startsWith("UnderTheRope x = new UnderTheRope();") ? new UnderTheRope() : follow(x, line);
            }
        }
        namesEachCall();
        namesEachTest(page);
        Checks.end("ReadmeTest");
    }

    private static UnderTheRope follow(UnderTheRope x, String line) throws ReflectiveOperationException {
        Matcher writing = WRITING.matcher(line);
        Matcher call = CALL.matcher(line);
        if (x != null && writing.matches()) {
            called.add("write");
            Checks.put(x, writing.group(1));
        } else if (x != null && call.matches()) {
            called.add(call.group(1));
            Checks.due(line, answer(x, call.group(1), call.group(2)), number(call.group(3)));
        } else {
            Checks.fail("a line that is no call with its answer: " + line);
        }
        return x;
    }

    private static int answer(UnderTheRope x, String name, String list) throws ReflectiveOperationException {
        String[] told = list.isBlank() ? new String[0] : list.split(",");
        Class<?>[] types = new Class<?>[told.length];
        Object[] numbers = new Object[told.length];
        for (int k = 0; k < told.length; k++) {
            types[k] = int.class;
            numbers[k] = Integer.valueOf(told[k].trim());
        }
        return (Integer) UnderTheRope.class.getMethod(name, types).invoke(x, numbers);
    }

    private static int number(String told) throws ReflectiveOperationException {
        return Character.isUpperCase(told.charAt(0)) ? UnderTheRope.class.getField(told).getInt(null) : Integer.parseInt(told);
    }

    private static void namesEachCall() {
        for (Method m : UnderTheRope.class.getDeclaredMethods()) {
            if (Modifier.isPublic(m.getModifiers()) && !called.contains(m.getName())) {
                Checks.fail("README.md does not call " + m.getName());
            }
        }
    }

    private static void namesEachTest(String page) {
        String[] files = new File("src/test/java").list();
        for (String file : files == null ? new String[0] : files) {
            if (!page.contains("`" + file.replace(".java", "") + "`")) {
                Checks.fail("README.md does not name " + file);
            }
        }
    }
}
