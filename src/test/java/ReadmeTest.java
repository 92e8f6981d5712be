import java.lang.reflect.Method;
import java.lang.reflect.Modifier;
import java.net.URL;
import java.net.URLClassLoader;
import java.nio.file.Files;
import java.nio.file.Path;
import java.util.regex.Matcher;
import java.util.regex.Pattern;
import javax.tools.JavaCompiler;
import javax.tools.ToolProvider;

/** What README.md shows compiles, each call of it answers what stands behind it, and no call is left out of it. */
public final class ReadmeTest {
    private static final Pattern BLOCK = Pattern.compile("```java\n(.*?)```", Pattern.DOTALL);
    private static final Pattern ANSWERED = Pattern.compile("(\\S.*);\\s+// (\"[^\"]*\"|-?[\\d.]+): .*");

    private static int answers = 0;
    private static int wrong = 0;

    public static void main(String[] args) throws Exception {
        String page = Files.readString(Path.of("README.md"));
        namesEachCall(page);
        run(program(page));
        System.out.println(wrong == 0 ? "the page is as due, with " + answers + " answers" : wrong + " things are not as due");
        if (wrong != 0 || answers == 0) {
            System.exit(1);
        }
    }

    private static void fault(String what) {
        wrong++;
        System.out.println(what);
    }

    private static void namesEachCall(String page) {
        for (Method m : HandFingers.class.getDeclaredMethods()) {
            if (Modifier.isPublic(m.getModifiers()) && !page.contains("`" + m.getName() + "`")) {
                fault("the page does not name " + m.getName());
            }
        }
    }

    /** The blocks of methods as they stand, the others one behind the other in a method of their own. */
    private static String program(String page) {
        StringBuilder methods = new StringBuilder();
        StringBuilder calls = new StringBuilder();
        Matcher block = BLOCK.matcher(page);
        while (block.find()) {
            if (block.group(1).startsWith("static ")) {
                methods.append(block.group(1));
                continue;
            }
            for (String line : block.group(1).split("\n")) {
                Matcher answered = ANSWERED.matcher(line);
                calls.append(answered.matches() ? asked(answered.group(1), answered.group(2)) : line).append('\n');
            }
        }
        return "public class Shown {\n" + methods + "public static void run() {\n" + calls + "}\n}\n";
    }

    private static String asked(String call, String want) {
        String name = call.replace("\\", "\\\\").replace("\"", "\\\"");
        String text = want.replace("\"", "");
        return "ReadmeTest.answered(\"" + name + "\", String.valueOf(" + call + "), \"" + text + "\");";
    }

    public static void answered(String call, String got, String want) {
        answers++;
        if (!got.equals(want)) {
            fault(call + " answered " + got + ", the page says " + want);
        }
    }

    private static void run(String program) throws Exception {
        Path place = Files.createTempDirectory("shown");
        Path file = place.resolve("Shown.java");
        Files.writeString(file, program);
        JavaCompiler compiler = ToolProvider.getSystemJavaCompiler();
        int code = compiler.run(null, null, null, "-cp", System.getProperty("java.class.path"), "-d", place.toString(),
                file.toString());
        if (code != 0) {
            fault("what the page shows does not compile");
        } else {
            try (URLClassLoader loader = new URLClassLoader(new URL[] {place.toUri().toURL()})) {
                loader.loadClass("Shown").getMethod("run").invoke(null);
            }
        }
        Files.deleteIfExists(place.resolve("Shown.class"));
        Files.deleteIfExists(file);
        Files.deleteIfExists(place);
    }
}
