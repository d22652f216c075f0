import java.io.IOException;
import java.lang.reflect.Field;
import java.lang.reflect.Method;
import java.lang.reflect.Modifier;
import java.nio.charset.StandardCharsets;
import java.nio.file.Files;
import java.nio.file.Path;
import java.util.ArrayList;
import java.util.Arrays;
import java.util.List;
import java.util.Set;
import java.util.TreeSet;
import java.util.regex.Matcher;
import java.util.regex.Pattern;

/** What of ../shared/LANGUAGE.md can be seen from the file's words and the class's members. Run at the project's root. */
public final class RuleTest {
    private static final Path FILE = Path.of("src/main/java/ClothWithMan.java");
    private static final String[] FORBIDDEN = {
        "->", "::", "\\w+Exact\\b", "\\b(finally|synchronized|assert|catch|try|volatile|transient|native|package)\\b",
        "\\b(protected|instanceof|record|sealed|var|goto|strictfp)\\b", "\\b(System|Thread|Random|Object|Class)\\b",
        "\\bstatic\\s*\\{", "\\b(equals|hashCode|toString)\\b", "\\b(double|float)\\b", "\"\\s*\\+|\\+\\s*\"",
        "\\w+(OutOfBounds|NullPointer|Arithmetic|ClassCast|NegativeArraySize|ArrayStore)\\w*",
        "\\bnew int\\[[^\\]]+\\]\\[", "@\\w+",
    };

    private final Check check = new Check("RuleTest");

    public static void main(String[] args) throws IOException {
        RuleTest test = new RuleTest();
        byte[] bytes = Files.readAllBytes(FILE);
        String text = new String(bytes, StandardCharsets.ISO_8859_1);
        test.signs(text);
        String bare = withoutComments(text);
        test.words(bare);
        test.imports(bare);
        test.throwsOnlyWrittenTexts(bare);
        test.methodLengths(text);
        test.classes();
        test.check.close();
    }

    private static String withoutComments(String text) {
        return text.replaceAll("(?s)/\\*.*?\\*/", "").replaceAll("//[^\n]*", "");
    }

    private void signs(String text) {
        for (int i = 0; i < text.length(); i++) {
            char sign = text.charAt(i);
            if (sign != '\n' && (sign < 32 || sign > 126)) {
                check.same("a sign of the file at " + i, 0, sign);
            }
        }
    }

    private void words(String bare) {
        for (String forbidden : FORBIDDEN) {
            Matcher found = Pattern.compile(forbidden).matcher(bare);
            check.text("what matches " + forbidden, "", found.find() ? found.group() : "");
        }
    }

    private void imports(String bare) {
        List<String> found = new ArrayList<>();
        Matcher line = Pattern.compile("(?m)^import (.*);$").matcher(bare);
        while (line.find()) {
            found.add(line.group(1));
        }
        check.text("imports", "[java.util.ArrayList, java.util.NoSuchElementException]", found.toString());
    }

    private void throwsOnlyWrittenTexts(String bare) {
        Matcher all = Pattern.compile("\\bthrow\\b[^;]*;").matcher(bare);
        while (all.find()) {
            check.yes("as rule 6 says: " + all.group(),
                    all.group().matches("throw new NoSuchElementException\\(\"[a-z, ]+\"\\);"));
        }
    }

    /** By the file's own way to indent: a method begins and ends at the depth of its first line. */
    private void methodLengths(String text) {
        String[] lines = text.split("\n");
        for (int i = 0; i < lines.length; i++) {
            Matcher head = Pattern.compile("^( {4}| {8})[a-zA-Z][^=;]*\\(.*$").matcher(lines[i]);
            if (!head.matches() || lines[i].trim().matches("(if|for|while|switch|return|else).*")) {
                continue;
            }
            int end = i;
            while (end < lines.length && !lines[end].equals(head.group(1) + "}")) {
                end++;
            }
            check.yes("a method of 60 lines at most: " + lines[i].trim(), end - i < 60);
        }
    }

    private void classes() {
        List<Class<?>> all = new ArrayList<>(Arrays.asList(ClothWithMan.class.getDeclaredClasses()));
        Set<String> face = new TreeSet<>();
        for (Method method : ClothWithMan.class.getMethods()) {
            face.add(method.getName());
        }
        for (Class<?> inner : all) {
            check.yes("static: " + inner, Modifier.isStatic(inner.getModifiers()));
            check.no("not public: " + inner, Modifier.isPublic(inner.getModifiers()));
            for (Method method : inner.getDeclaredMethods()) {
                check.no("bears a name of the face: " + method, face.contains(method.getName()));
            }
        }
        all.add(ClothWithMan.class);
        check.yes("twelve classes at most", all.size() <= 12);
        for (Class<?> one : all) {
            members(one);
        }
    }

    private void members(Class<?> one) {
        int fields = 0;
        for (Field field : one.getDeclaredFields()) {
            boolean isStatic = Modifier.isStatic(field.getModifiers());
            check.yes("static fields are final: " + field, !isStatic || Modifier.isFinal(field.getModifiers()));
            fields += isStatic ? 0 : 1;
        }
        check.yes("twenty fields at most: " + one, fields <= 20);
        for (Method method : one.getDeclaredMethods()) {
            check.yes("seven parameters at most: " + method, method.getParameterCount() <= 7);
        }
    }
}
