import java.io.File;
import java.io.IOException;
import java.lang.reflect.Method;
import java.lang.reflect.Modifier;
import java.nio.charset.StandardCharsets;
import java.nio.file.Files;
import java.nio.file.Path;
import java.util.ArrayList;
import java.util.List;
import java.util.regex.Matcher;
import java.util.regex.Pattern;

/** What README.md shows is so: its calls answer what it says, and it names each call and each test. */
public final class ReadmeTest {
    private static final Pattern TELL = Pattern.compile("tell\\(x, \"([^\"]*)\"\\);\\s+// (-?\\d+).*");
    private static final Pattern CALL = Pattern.compile("x\\.(\\w+)\\(([^)]*)\\);\\s+// (-?\\d+).*");

    private static int asked = 0;
    private static int wrong = 0;

    private static void must(boolean holds, String what) {
        asked++;
        if (!holds) {
            wrong++;
            System.out.println(what);
        }
    }

    /** The lines of this method stand in README.md, too; main looks whether they are the same. */
    static int tell(AuntsPuzzle x, String text) {
        for (int from = 0; from < text.length(); from += 8) {
            int n = Math.min(8, text.length() - from);
            long bytes = 0;
            for (int i = 0; i < n; i++) {
                bytes |= (long) text.charAt(from + i) << (8 * i);
            }
            x.feed(n, bytes);
        }
        return x.puzzle();
    }

    private static String read(String path) throws IOException {
        return Files.readString(Path.of(path), StandardCharsets.UTF_8);
    }

    private static List<Method> face() {
        List<Method> methods = new ArrayList<>();
        for (Method method : AuntsPuzzle.class.getDeclaredMethods()) {
            if (Modifier.isPublic(method.getModifiers())) {
                methods.add(method);
            }
        }
        return methods;
    }

    private static int call(AuntsPuzzle x, String name, String arguments) throws ReflectiveOperationException {
        String[] words = arguments.isEmpty() ? new String[0] : arguments.split(", ");
        Object[] numbers = new Object[words.length];
        for (int i = 0; i < words.length; i++) {
            numbers[i] = Integer.valueOf(words[i]);
        }
        for (Method method : face()) {
            if (method.getName().equals(name) && method.getParameterCount() == words.length) {
                return (Integer) method.invoke(x, numbers);
            }
        }
        throw new IllegalStateException("no such call: " + name);
    }

    private static void followExample(String block) throws ReflectiveOperationException {
        AuntsPuzzle x = null;
        for (String line : block.split("\n")) {
            Matcher told = TELL.matcher(line);
            Matcher called = CALL.matcher(line);
            if (line.equals("AuntsPuzzle x = new AuntsPuzzle();")) {
                x = new AuntsPuzzle();
            } else if (x != null && told.matches()) {
                int got = tell(x, told.group(1));
                must(got == Integer.parseInt(told.group(2)), line + " answered " + got);
            } else if (x != null && called.matches()) {
                int got = call(x, called.group(1), called.group(2));
                must(got == Integer.parseInt(called.group(3)), line + " answered " + got);
            } else {
                must(false, "not a call with its answer: " + line);
            }
        }
    }

    private static List<String> javaBlocks(String readme) {
        List<String> blocks = new ArrayList<>();
        Matcher block = Pattern.compile("(?s)```java\n(.*?)\n```").matcher(readme);
        while (block.find()) {
            blocks.add(block.group(1));
        }
        return blocks;
    }

    private static String words(String text) {
        return text.replaceAll("\\s+", " ");
    }

    public static void main(String[] args) throws IOException, ReflectiveOperationException {
        String readme = read("README.md");
        List<String> blocks = javaBlocks(readme);
        must(blocks.size() == 2, "README.md has " + blocks.size() + " blocks of Java, not two");
        if (blocks.size() == 2) {
            must(words(read("src/test/java/ReadmeTest.java")).contains(words(blocks.get(0))), "tell is not the method of this test");
            followExample(blocks.get(1));
        }
        for (Method method : face()) {
            must(readme.contains("`" + method.getName() + "`"), "README.md does not name " + method.getName());
        }
        File[] tests = new File("src/test/java").listFiles();
        for (File test : tests == null ? new File[0] : tests) {
            must(readme.contains("`" + test.getName().replace(".java", "") + "`"), "README.md does not name " + test.getName());
        }
        must(tests != null && tests.length > 0 && readme.contains("    .ci/run\n"), "README.md does not say how to run the tests");
        System.out.println(asked + " things that README.md says looked at, " + wrong + " not so");
        if (wrong != 0) {
            System.exit(1);
        }
    }
}
