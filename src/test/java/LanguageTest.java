import java.io.IOException;
import java.lang.reflect.Field;
import java.lang.reflect.Method;
import java.lang.reflect.Modifier;
import java.nio.file.Files;
import java.nio.file.Path;
import java.util.Set;
import java.util.TreeSet;
import java.util.regex.Matcher;
import java.util.regex.Pattern;

/** Holds the program against the rules of ../shared/LANGUAGE.md that can be seen from outside. */
public final class LanguageTest {
    private static final Path PROGRAM = Path.of("src/main/java/FortyStems.java");
    private static final Path DOCUMENT = Path.of("../shared/DOC.md");
    private static int wrong = 0;

    public static void main(String[] args) throws IOException {
        String code = withoutComments(Files.readString(PROGRAM));
        words(code);
        face();
        classes();
        lengths(code);
        System.out.println(wrong == 0 ? "the rules are kept" : wrong + " rules are broken");
        if (wrong != 0) {
            System.exit(1);
        }
    }

    private static void broken(int rule, String what) {
        wrong++;
        System.out.println("rule " + rule + ": " + what);
    }

    private static String withoutComments(String text) {
        return text.replaceAll("(?s)/\\*.*?\\*/", "").replaceAll("//[^\n]*", "");
    }

    private static void words(String code) {
        String[] none = {"\\bimport\\b", "\\bpackage\\b", "\\bthrows?\\b", "\\btry\\b", "\\bcatch\\b",
            "\\bsynchronized\\b", "\\bassert\\b", "->", "::", "\\bprotected\\b", "Exact\\b", "\\bhashCode\\b",
            "\\btoString\\b", "\\bSystem\\.(?!arraycopy\\b)", "\\bNaN\\b", "\\bThread\\b", "@"};
        for (String word : none) {
            if (Pattern.compile(word).matcher(code).find()) {
                broken(6, "the program has " + word);
            }
        }
        for (char c : code.toCharArray()) {
            if (c > 126) {
                broken(4, "the program has the sign " + (int) c);
            }
        }
    }

    /** The document's face, and nothing else that can be seen. */
    private static void face() throws IOException {
        String doc = Files.readString(DOCUMENT);
        String face = doc.substring(doc.indexOf("```java"), doc.indexOf("## Terms"));
        Set<String> due = new TreeSet<>();
        Matcher m = Pattern.compile("public (int|long) (\\w+)\\(([^)]*)\\);").matcher(face);
        while (m.find()) {
            due.add(m.group(1) + " " + m.group(2) + " " + m.group(3).split("int ", -1).length);
        }
        Set<String> seen = new TreeSet<>();
        Set<String> names = new TreeSet<>();
        for (Method method : FortyStems.class.getDeclaredMethods()) {
            if (!Modifier.isPrivate(method.getModifiers())) {
                seen.add(method.getReturnType() + " " + method.getName() + " " + (method.getParameterCount() + 1));
                names.add(method.getName());
            }
        }
        if (due.size() != 28 || !due.equals(seen)) {
            broken(1, "the face is " + seen + ", due is " + due);
        }
        Set<String> constants = new TreeSet<>();
        for (Field field : FortyStems.class.getDeclaredFields()) {
            if (!Modifier.isPrivate(field.getModifiers())) {
                constants.add(field.getName());
            }
        }
        if (!constants.equals(Set.of("NONE", "BAD", "STATE", "FULL", "NO"))) {
            broken(1, "the constants are " + constants);
        }
        privateNames(FortyStems.class, names);
        for (Class<?> inside : FortyStems.class.getDeclaredClasses()) {
            privateNames(inside, names);
        }
    }

    private static void privateNames(Class<?> of, Set<String> names) {
        for (Method method : of.getDeclaredMethods()) {
            boolean isFace = of == FortyStems.class && Modifier.isPublic(method.getModifiers());
            if (!isFace && names.contains(method.getName())) {
                broken(1, of + " has a method of the face's name " + method.getName());
            }
            if (method.getParameterCount() > 7) {
                broken(11, method + " takes more than seven");
            }
        }
    }

    private static void classes() {
        Class<?>[] inside = FortyStems.class.getDeclaredClasses();
        if (inside.length > 11) {
            broken(11, inside.length + " classes inside");
        }
        for (Class<?> one : inside) {
            if (!Modifier.isStatic(one.getModifiers()) || Modifier.isPublic(one.getModifiers())) {
                broken(2, one + " is not static or is public");
            }
            fields(one);
        }
        fields(FortyStems.class);
    }

    private static void fields(Class<?> of) {
        int many = 0;
        for (Field field : of.getDeclaredFields()) {
            if (!Modifier.isStatic(field.getModifiers())) {
                many++;
            } else if (!Modifier.isFinal(field.getModifiers())) {
                broken(5, field + " is static and not final");
            }
        }
        if (many > 20) {
            broken(11, of + " has " + many + " fields");
        }
    }

    private static void lengths(String code) {
        int since = 0;
        String[] lines = code.split("\n");
        for (int i = 0; i < lines.length; i++) {
            if (lines[i].matches("\\s+(public|private).*\\) \\{")) {
                since = i;
            }
            if (lines[i].matches("    (    )?\\}") && i - since > 60) {
                since = i;
                broken(11, "a method of over sixty lines ends at line " + i);
            }
        }
    }
}
