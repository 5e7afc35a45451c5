import java.io.IOException;
import java.lang.reflect.Constructor;
import java.lang.reflect.Field;
import java.lang.reflect.Method;
import java.lang.reflect.Modifier;
import java.nio.charset.StandardCharsets;
import java.nio.file.Files;
import java.nio.file.Path;
import java.util.Arrays;
import java.util.Set;
import java.util.TreeSet;
import java.util.regex.Matcher;
import java.util.regex.Pattern;

/** The public face of the document, and what LANGUAGE.md leaves out of Java, as far as words and reflection tell. */
public final class LanguageTest {
    private static final String[] FACE = {
        "feed int long", "puzzle", "side int int int", "colour int", "person int int", "laid int int", "fits int int int",
        "seconds int int int int", "tryIt int int int int", "lift int", "pocket int", "find int", "ways int", "first int int",
        "done int int", "half int int", "bestRule int", "table int int", "line int", "seems", "wrong", "falseOne", "over",
        "balance int", "lacks", "which", "mine int int", "hardest", "keeper int int", "evening int int", "row int", "judge",
        "image", "on", "count int"};
    private static final String[] BANNED = {
        "throw", "throws", "try", "catch", "finally", "synchronized", "assert", "import", "package", "->", "::", "float", "double",
        "hashCode", "toString", "equals", "volatile", "transient", "native", "Object", "System\\.(?!arraycopy)", "Exact",
        "Integer", "Long", "List", "ArrayList", "String\\.", "protected", "this"};

    private static int wrong = 0;

    private static void must(boolean holds, String what) {
        if (!holds) {
            wrong++;
            System.out.println(what);
        }
    }

    private static String told(Method method) {
        StringBuilder text = new StringBuilder(method.getName());
        for (Class<?> type : method.getParameterTypes()) {
            text.append(' ').append(type.getSimpleName());
        }
        return text.toString();
    }

    private static void lookAtFace() {
        Set<String> due = new TreeSet<>(Arrays.asList(FACE));
        Set<String> names = new TreeSet<>();
        for (String one : FACE) {
            names.add(one.split(" ")[0]);
        }
        for (Method method : AuntsPuzzle.class.getDeclaredMethods()) {
            if (Modifier.isPrivate(method.getModifiers())) {
                must(!names.contains(method.getName()), "a private method bears a public name: " + method);
            } else {
                must(due.remove(told(method)), "not in the face: " + method);
                must(Modifier.isPublic(method.getModifiers()) && !Modifier.isStatic(method.getModifiers()), "not as told: " + method);
                must(method.getReturnType() == int.class, "answers no int: " + method);
            }
        }
        must(due.isEmpty(), "lacks: " + due);
        Constructor<?>[] makers = AuntsPuzzle.class.getDeclaredConstructors();
        must(makers.length == 1 && makers[0].getParameterCount() == 0 && Modifier.isPublic(makers[0].getModifiers()), "constructors");
        must(Modifier.isFinal(AuntsPuzzle.class.getModifiers()), "the class is not final");
    }

    private static void lookAtClasses() {
        Class<?>[] inside = AuntsPuzzle.class.getDeclaredClasses();
        must(inside.length <= 11, "too many classes");
        for (Class<?> one : inside) {
            must(Modifier.isStatic(one.getModifiers()) && !Modifier.isPublic(one.getModifiers()), "not static and hidden: " + one);
            for (Method method : one.getDeclaredMethods()) {
                must(!Arrays.asList(FACE).stream().anyMatch(f -> f.split(" ")[0].equals(method.getName())), "a face's name: " + method);
                must(method.getParameterCount() <= 7, "too many parameters: " + method);
            }
            lookAtFields(one);
        }
        lookAtFields(AuntsPuzzle.class);
    }

    private static void lookAtFields(Class<?> one) {
        int fields = 0;
        for (Field field : one.getDeclaredFields()) {
            boolean isStatic = Modifier.isStatic(field.getModifiers());
            must(Modifier.isPrivate(field.getModifiers()), "a field is not private: " + field);
            must(!isStatic || Modifier.isFinal(field.getModifiers()), "a static field is not final: " + field);
            fields += isStatic ? 0 : 1;
        }
        must(fields <= 20, "too many fields: " + one);
    }

    private static void lookAtWords(String source) {
        String code = source.replaceAll("(?s)/\\*.*?\\*/", " ").replaceAll("//[^\n]*", " ").replaceAll("\"[^\"\n]*\"", "\"\"");
        for (String word : BANNED) {
            boolean isWord = Character.isLetter(word.charAt(0)) && Character.isLetter(word.charAt(word.length() - 1));
            Matcher found = Pattern.compile(isWord ? "\\b" + word + "\\b" : word).matcher(code);
            must(!found.find(), "the program has: " + word);
        }
        for (char sign : source.toCharArray()) {
            must(sign == '\n' || sign >= ' ' && sign < 127, "a sign that may not be: " + (int) sign);
        }
        for (String method : code.split("\n    (?:    )?\\}\n")) {
            must(method.split("\n").length <= 60, "a long method: " + method.trim().split("\n")[0]);
        }
    }

    /** A counter that goes up by one, or by a step that is seen to be one at least. */
    private static void lookAtLoops(String source) {
        Matcher loop = Pattern.compile("\\bfor \\(([^;\n]*);([^;\n]*);([^;\n]*)\\) \\{\n").matcher(source);
        int loops = 0;
        while (loop.find()) {
            loops++;
            boolean goesUp = loop.group(3).trim().matches("\\w+\\+\\+|\\w+ \\+= Math\\.max\\(1, \\w+\\)");
            must(goesUp && loop.group(2).contains("<"), "a loop whose own lines do not show its end: " + loop.group().trim());
        }
        must(loops == source.split("\\bfor \\(").length - 1, "a loop of another form");
    }

    public static void main(String[] args) throws IOException {
        String source = Files.readString(Path.of("src/main/java/AuntsPuzzle.java"), StandardCharsets.ISO_8859_1);
        lookAtFace();
        lookAtClasses();
        lookAtWords(source);
        lookAtLoops(source);
        System.out.println(wrong == 0 ? "the program keeps to the language" : wrong + " places do not keep to the language");
        if (wrong != 0) {
            System.exit(1);
        }
    }
}
