import java.io.IOException;
import java.lang.invoke.MethodHandles;
import java.lang.reflect.Method;
import java.lang.reflect.Modifier;
import java.nio.charset.StandardCharsets;
import java.nio.file.Files;
import java.nio.file.Path;
import java.util.regex.Matcher;
import java.util.regex.Pattern;
import javax.tools.ToolProvider;

/** The examples in README.md are run as they stand there; what stands behind // is the answer that is due. */
public final class ReadmeTest {
    private static final Due due = new Due("ReadmeTest");
    private static final Path BUILT = Path.of("build", "readme");

    public static void main(String[] args) throws Exception {
        String page = Files.readString(Path.of("README.md"), StandardCharsets.US_ASCII);
        everyCallIsNamed(page);
        runExamples(page);
        due.close();
    }

    private static void everyCallIsNamed(String page) {
        String table = page.substring(page.indexOf("### What can be asked"), page.indexOf("### What to keep"));
        for (Method m : GrownPost.class.getDeclaredMethods()) {
            if (Modifier.isPublic(m.getModifiers())) {
                due.is("README.md names " + m.getName(), table.contains("`" + m.getName() + "`"), true);
            }
        }
    }

    private static void runExamples(String page) throws IOException, ReflectiveOperationException {
        StringBuilder members = new StringBuilder();
        StringBuilder steps = new StringBuilder();
        Matcher block = Pattern.compile("```java\n(.*?)```", Pattern.DOTALL).matcher(page);
        while (block.find()) {
            if (block.group(1).startsWith("/**")) {
                members.append(block.group(1));
            } else {
                block.group(1).lines().forEach(line -> steps.append(step(line)).append('\n'));
            }
        }
        Files.createDirectories(BUILT);
        Path source = BUILT.resolve("ReadmeRun.java");
        Files.writeString(source, "final class ReadmeRun {\n" + members + "static void run(Due due) {\n" + steps + "}\n}\n");
        int failed = ToolProvider.getSystemJavaCompiler().run(null, null, null, "-d", BUILT.toString(),
                "-cp", System.getProperty("java.class.path"), source.toString());
        due.is("README.md's examples compile", failed, 0);
        if (failed == 0) {
            byte[] bytes = Files.readAllBytes(BUILT.resolve("ReadmeRun.class"));
            MethodHandles.lookup().defineClass(bytes).getDeclaredMethod("run", Due.class).invoke(null, due);
        }
    }

    /** A line of an example: a call with the answer that is due, or one to be run as it stands. */
    private static String step(String line) {
        Matcher call = Pattern.compile("(x\\..*);\\s*// (\\w+|-\\d+)(:.*)?").matcher(line);
        if (!call.matches()) {
            return line;
        }
        String told = "\"" + call.group(1) + "\", ";
        if (call.group(2).endsWith("Exception")) {
            String thrown = call.group(2).equals("NoSuchElementException") ? "java.util." + call.group(2) : call.group(2);
            return "due.fails(" + told + thrown + ".class, () -> " + call.group(1) + ");";
        }
        return "due.is(" + told + call.group(1) + ", " + call.group(2) + ");";
    }
}
