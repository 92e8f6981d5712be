import java.io.PrintWriter;
import java.io.StringWriter;
import java.lang.reflect.Constructor;
import java.lang.reflect.Field;
import java.lang.reflect.Method;
import java.lang.reflect.Modifier;
import java.nio.file.Files;
import java.nio.file.Path;
import java.util.ArrayList;
import java.util.HashMap;
import java.util.List;
import java.util.Map;
import java.util.Optional;
import java.util.Set;
import java.util.TreeMap;
import java.util.TreeSet;
import java.util.regex.Matcher;
import java.util.regex.Pattern;
import java.util.spi.ToolProvider;

/** What LANGUAGE.md says of sizes (rule 11), of the library (rule 4) and of how deep calls go (rules 8 and 11). */
public final class RulesTest {
    private static final int MOST_PARAMETERS = 7;
    private static final int MOST_LINES = 60;
    private static final int MOST_CLASSES = 12;
    private static final int MOST_FIELDS = 20;
    private static final int MOST_DEPTH = 8;

    private static final Set<String> LIBRARY = Set.of("java/lang/Integer.bitCount", "java/lang/Math.abs",
            "java/lang/Math.floorMod", "java/lang/Math.max", "java/lang/Math.min", "java/lang/Object.<init>",
            "java/lang/String.charAt", "java/lang/String.length", "java/lang/System.arraycopy",
            "java/lang/IllegalArgumentException.<init>", "java/lang/IllegalStateException.<init>",
            "java/lang/IndexOutOfBoundsException.<init>", "java/util/NoSuchElementException.<init>");

    private static final Pattern CLASS = Pattern.compile("(?:\\w+ )*class ([\\w$]+).*\\{");
    private static final Pattern MEMBER = Pattern.compile("  (?! )(?:.* )?([\\w$]+)\\(.*\\).*;|  (static) \\{\\};");
    private static final Pattern INVOKED = Pattern.compile("invoke\\w+ .*Method (\\S+?):.*");

    private static final Map<String, Set<String>> calls = new TreeMap<>();
    private static final Map<String, Integer> depths = new HashMap<>();
    private static int wrong = 0;

    public static void main(String[] args) throws Exception {
        List<Class<?>> classes = new ArrayList<>(List.of(HandFingers.class.getDeclaredClasses()));
        classes.add(HandFingers.class);
        sizes(classes);
        lines(Files.readAllLines(Path.of("src/main/java/HandFingers.java")));
        Optional<ToolProvider> javap = ToolProvider.findFirst("javap");
        if (javap.isPresent()) {
            readCalls(javap.get(), classes);
            depthAndLibrary();
        } else {
            System.out.println("this Java has no javap: the library and how deep calls go were not looked at");
        }
        System.out.println(wrong == 0 ? "the rules are kept" : wrong + " things are not as due");
        if (wrong != 0) {
            System.exit(1);
        }
    }

    private static void fault(String what) {
        wrong++;
        System.out.println(what);
    }

    private static void atMost(int most, int got, String what) {
        if (got > most) {
            fault(what + ": " + got + ", at most " + most + " are due");
        }
    }

    private static void sizes(List<Class<?>> classes) {
        atMost(MOST_CLASSES, classes.size(), "classes");
        for (Class<?> c : classes) {
            int fields = 0;
            for (Field f : c.getDeclaredFields()) {
                fields += Modifier.isStatic(f.getModifiers()) ? 0 : 1;
            }
            atMost(MOST_FIELDS, fields, "fields of " + c.getName());
            for (Method m : c.getDeclaredMethods()) {
                atMost(MOST_PARAMETERS, m.getParameterCount(), "parameters of " + m.getName());
            }
            for (Constructor<?> one : c.getDeclaredConstructors()) {
                atMost(MOST_PARAMETERS, one.getParameterCount(), "parameters of " + c.getName());
            }
        }
    }

    /** A method ends at the brace that stands as far from the left as its first line. */
    private static void lines(List<String> source) {
        for (int at = 0; at < source.size(); at++) {
            String line = source.get(at);
            Matcher head = Pattern.compile("( {4}| {8})(?! )[\\w ]*?(\\w+)\\([^;]*").matcher(line);
            if (!head.matches() || line.contains(" = ")) {
                continue;
            }
            int end = at;
            while (end < source.size() && !source.get(end).equals(head.group(1) + "}")) {
                end++;
            }
            atMost(MOST_LINES, end - at + 1, "lines of " + head.group(2));
        }
    }

    private static void readCalls(ToolProvider javap, List<Class<?>> classes) throws Exception {
        Path place = Path.of(HandFingers.class.getProtectionDomain().getCodeSource().getLocation().toURI());
        List<String> words = new ArrayList<>(List.of("-c", "-p"));
        for (Class<?> c : classes) {
            words.add(place.resolve(c.getName() + ".class").toString());
        }
        StringWriter told = new StringWriter();
        int code = javap.run(new PrintWriter(told), new PrintWriter(System.out, true), words.toArray(new String[0]));
        if (code != 0) {
            fault("javap does not read the classes");
        }
        String owner = "";
        String member = "";
        for (String line : told.toString().split("\\R")) {
            Matcher m = CLASS.matcher(line);
            if (m.matches()) {
                owner = m.group(1);
                continue;
            }
            m = MEMBER.matcher(line);
            if (m.matches()) {
                String name = m.group(2) != null ? "<clinit>" : m.group(1).equals(owner) ? "<init>" : m.group(1);
                member = owner + "." + name;
                calls.computeIfAbsent(member, k -> new TreeSet<>());
                continue;
            }
            m = INVOKED.matcher(line.replaceFirst(".*?: ", "").replace("\"", ""));
            if (m.matches()) {
                calls.get(member).add(m.group(1).contains(".") ? m.group(1) : owner + "." + m.group(1));
            } else if (line.contains("invokedynamic")) {
                fault(member + " has an invokedynamic");
            }
        }
    }

    private static void depthAndLibrary() {
        Set<String> own = Set.copyOf(calls.keySet());
        for (String member : own) {
            atMost(MOST_DEPTH, depth(member, new ArrayList<>()), "calls open at once from " + member);
            for (String called : calls.get(member)) {
                if (!own.contains(called) && !LIBRARY.contains(called)) {
                    fault(member + " calls " + called);
                }
            }
        }
        if (!own.contains("HandFingers.load") || depths.getOrDefault("HandFingers.load", 0) < 2) {
            fault("the calls were not read");
        }
    }

    private static int depth(String member, List<String> open) {
        if (open.contains(member)) {
            fault("a recursion: " + open);
            return 0;
        }
        Integer known = depths.get(member);
        if (known != null) {
            return known;
        }
        open.add(member);
        int deepest = 0;
        for (String called : calls.getOrDefault(member, Set.of())) {
            deepest = Math.max(deepest, depth(called, open));
        }
        open.remove(open.size() - 1);
        depths.put(member, deepest + 1);
        return deepest + 1;
    }
}
