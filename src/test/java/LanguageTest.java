import java.io.IOException;
import java.lang.reflect.Modifier;
import java.nio.charset.StandardCharsets;
import java.nio.file.Files;
import java.nio.file.Path;
import java.util.HashSet;
import java.util.Set;
import java.util.TreeSet;
import java.util.regex.Matcher;
import java.util.regex.Pattern;

/** What can be seen of ../shared/LANGUAGE.md, and of the document's face, from the source itself. */
public final class LanguageTest {
    private static final Due due = new Due("LanguageTest");

    public static void main(String[] args) throws IOException {
        String source = read("src/main/java/GrownPost.java");
        String code = bare(source);
        for (char c : source.toCharArray()) {
            if (c != '\n' && (c < 32 || c > 126)) {
                due.is("a strange sign", c, 32);
            }
        }
        forbidden(code);
        library(code);
        lengths(code);
        face(code, read("../shared/DOC.md"));
        fields(GrownPost.class);
        for (Class<?> inner : GrownPost.class.getDeclaredClasses()) {
            fields(inner);
        }
        due.close();
    }

    private static String read(String file) throws IOException {
        return new String(Files.readAllBytes(Path.of(file)), StandardCharsets.ISO_8859_1);
    }

    /** The source without comments and texts. */
    private static String bare(String source) {
        return Pattern.compile("/\\*.*?\\*/|//[^\n]*|\"(?:[^\"\\\\\n]|\\\\.)*\"|'(?:[^'\\\\\n]|\\\\.)'", Pattern.DOTALL).matcher(source).replaceAll(m -> {
            String found = m.group();
            return found.startsWith("/") ? "\n".repeat((int) found.chars().filter(c -> c == '\n').count())
                    : found.startsWith("'") ? "0" : "TEXT";
        });
    }

    private static void forbidden(String code) {
        String[] words = {"catch", "try", "finally", "synchronized", "assert", "package", "->", "::", "@", "static \\{", "Exact\\(",
            "equals\\(", "hashCode", "toString", "TEXT \\+", "\\+ TEXT", "protected", "volatile", "native", "double", "float"};
        for (String word : words) {
            String edge = Character.isLetter(word.charAt(0)) && Character.isLetter(word.charAt(word.length() - 1)) ? "\\b" : "";
            due.is("the source holds " + word, Pattern.compile(edge + word + edge).matcher(code).find(), false);
        }
    }

    private static void library(String code) {
        Set<String> allowed = Set.of("System.arraycopy", "Math.max", "Math.min", "Integer.bitCount");
        Matcher m = Pattern.compile("\\b([A-Z][a-z]\\w*\\.[a-z]\\w*)").matcher(code);
        while (m.find()) {
            due.is(m.group(1) + " is allowed", allowed.contains(m.group(1)), true);
        }
        Matcher imports = Pattern.compile("import ([^;]*);").matcher(code);
        while (imports.find()) {
            due.is("imports NoSuchElementException alone", imports.group(1).equals("java.util.NoSuchElementException"), true);
        }
    }

    /** No method is longer than sixty lines, none takes more than seven parameters; some twelve classes. */
    private static void lengths(String code) {
        String[] lines = code.split("\n");
        for (int i = 0; i < lines.length; i++) {
            Matcher head = Pattern.compile("^( +)(?:private |public |static |abstract )*[\\w\\[\\]]+ ?\\w*\\(([^)]*)\\).*\\{$").matcher(lines[i]);
            if (!head.matches() || lines[i].matches(" +(if|for|while|switch|\\}).*")) {
                continue;
            }
            int end = i;
            while (!lines[end].equals(head.group(1) + "}")) {
                end++;
            }
            due.is("line " + (i + 1) + ": a long method", end - i > 60, false);
            due.is("line " + (i + 1) + ": many parameters", head.group(2).split(",").length > 7, false);
        }
        Matcher classes = Pattern.compile("\\b(class|record|enum|interface) \\w+").matcher(code);
        int count = 0;
        while (classes.find()) {
            count++;
        }
        due.is("classes", count <= 12, true);
    }

    /** No class has more than some twenty fields, and none has static state. */
    private static void fields(Class<?> one) {
        int own = 0;
        for (java.lang.reflect.Field f : one.getDeclaredFields()) {
            boolean constant = Modifier.isStatic(f.getModifiers());
            own += constant ? 0 : 1;
            due.is(f.getName() + " is static, but not final", constant && !Modifier.isFinal(f.getModifiers()), false);
        }
        due.is("many fields in " + one.getSimpleName(), own > 20, false);
    }

    private static void face(String code, String doc) {
        Set<String> want = new TreeSet<>();
        Matcher promised = Pattern.compile("\n    public ([^;]*);").matcher(doc.substring(doc.indexOf("```java"), doc.indexOf("## Terms")));
        while (promised.find()) {
            want.add(promised.group(1));
        }
        Set<String> got = new TreeSet<>();
        Matcher found = Pattern.compile("\n    public ([^;{]*?)\\s*[;{]").matcher(code);
        while (found.find()) {
            if (!found.group(1).contains(" class ")) {
                got.add(found.group(1).replaceAll("\\s+", " "));
            }
        }
        due.is("constants, constructors and methods", got.size(), 55);
        for (String one : want) {
            due.is("the face has " + one, got.contains(one), true);
        }
        for (String one : got) {
            due.is("the document has " + one, want.contains(one), true);
        }
        Set<String> names = new HashSet<>();
        for (java.lang.reflect.Method m : GrownPost.class.getDeclaredMethods()) {
            if (Modifier.isPublic(m.getModifiers())) {
                names.add(m.getName());
            }
        }
        due.is("public methods", names.size(), 53);
        for (java.lang.reflect.Method m : GrownPost.class.getDeclaredMethods()) {
            boolean hidden = Modifier.isPrivate(m.getModifiers());
            due.is(m.getName() + " is public or private", hidden || Modifier.isPublic(m.getModifiers()), true);
            due.is(m.getName() + " has a name of the face", hidden && names.contains(m.getName()), false);
        }
        for (java.lang.reflect.Field f : GrownPost.class.getDeclaredFields()) {
            due.is(f.getName() + " is private", Modifier.isPrivate(f.getModifiers()) || f.getName().equals("NONE"), true);
        }
        for (Class<?> inner : GrownPost.class.getDeclaredClasses()) {
            for (java.lang.reflect.Method m : inner.getDeclaredMethods()) {
                due.is(inner.getSimpleName() + "." + m.getName() + " has a name of the face", names.contains(m.getName()), false);
            }
        }
    }
}
