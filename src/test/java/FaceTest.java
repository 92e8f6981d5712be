import java.lang.reflect.Constructor;
import java.lang.reflect.Field;
import java.lang.reflect.Method;
import java.lang.reflect.Modifier;
import java.nio.file.Files;
import java.nio.file.Path;
import java.util.ArrayList;
import java.util.List;
import java.util.Set;
import java.util.TreeSet;
import java.util.regex.Matcher;
import java.util.regex.Pattern;

/** The class has the face that the document shows and no other, and keeps to what of LANGUAGE.md a text search finds. */
public final class FaceTest {
    private static int wrong = 0;

    public static void main(String[] args) throws Exception {
        face(Files.readString(Path.of("../shared/DOC.md")));
        source(Files.readString(Path.of("src/main/java/HandFingers.java")));
        System.out.println(wrong == 0 ? "the face is as due" : wrong + " things are not as due");
        if (wrong != 0) {
            System.exit(1);
        }
    }

    private static void fault(String what) {
        wrong++;
        System.out.println(what);
    }

    private static void face(String document) {
        Set<String> due = new TreeSet<>();
        Matcher block = Pattern.compile("```java(.*?)```", Pattern.DOTALL).matcher(document);
        if (!block.find()) {
            fault("the document shows no face");
            return;
        }
        Matcher line = Pattern.compile("public ((?!final).*?);").matcher(block.group(1));
        while (line.find()) {
            due.add(line.group(1).replaceAll("static final int", "int").replaceAll("(int|boolean) \\w+(?=[,)])", "$1")
                    .replaceAll("\\s*=.*", ""));
        }
        Set<String> got = new TreeSet<>();
        for (Field f : HandFingers.class.getDeclaredFields()) {
            if (!Modifier.isPrivate(f.getModifiers())) {
                got.add("int " + f.getName());
            }
        }
        for (Constructor<?> c : HandFingers.class.getDeclaredConstructors()) {
            got.add(c.getName() + "()");
        }
        Set<String> names = new TreeSet<>();
        for (Method m : HandFingers.class.getDeclaredMethods()) {
            if (!Modifier.isPrivate(m.getModifiers())) {
                got.add(m.getReturnType().getName() + " " + m.getName() + "(" + simpleNames(m.getParameterTypes()) + ")"
                        + (m.getExceptionTypes().length == 0 ? "" : " throws " + simpleNames(m.getExceptionTypes())));
                names.add(m.getName());
            }
        }
        if (!due.equals(got)) {
            fault("the face is " + got + ", due is " + due);
        }
        for (Method m : HandFingers.class.getDeclaredMethods()) {
            if (Modifier.isPrivate(m.getModifiers()) && names.contains(m.getName())) {
                fault("a private method is named " + m.getName());
            }
        }
        for (Class<?> c : HandFingers.class.getDeclaredClasses()) {
            if (!Modifier.isStatic(c.getModifiers()) || Modifier.isPublic(c.getModifiers())) {
                fault("the class " + c.getName() + " is not static, or it is public");
            }
        }
    }

    private static String simpleNames(Class<?>[] classes) {
        List<String> names = new ArrayList<>();
        for (Class<?> c : classes) {
            names.add(c.getSimpleName());
        }
        return String.join(", ", names);
    }

    private static void source(String text) {
        String[] barred = {"->", "::", "\\bfinally\\b", "\\bsynchronized\\b", "\\bassert\\b", "\\bcatch\\b", "\\btry\\b",
            "\\bpackage\\b", "\\bSystem\\.(?!arraycopy\\()", "Exact\\(", "\\bThread\\b", "\\bRandom\\b", "\\bstatic \\{",
            "(?m)^import (?!java\\.util\\.NoSuchElementException;)", "\\bprotected\\b", "\\bString\\.", "\\+ \"", "\" \\+",
            "\\binstanceof\\b", "[^\\x00-\\x7f]"};
        for (String one : barred) {
            Matcher m = Pattern.compile(one).matcher(text);
            if (m.find()) {
                fault("the source has " + m.group());
            }
        }
        Matcher thrown = Pattern.compile("throw new (\\w+)\\(").matcher(text);
        while (thrown.find()) {
            if (!Set.of("IllegalStateException", "IllegalArgumentException", "IndexOutOfBoundsException",
                    "NoSuchElementException").contains(thrown.group(1))) {
                fault("the source throws " + thrown.group(1));
            }
        }
    }
}
