import java.lang.reflect.InvocationTargetException;
import java.lang.reflect.Method;
import java.lang.reflect.Modifier;
import java.util.Arrays;
import java.util.Comparator;
import java.util.NoSuchElementException;
import java.util.Set;
import java.util.function.IntConsumer;

/**
 * What the tests of the boundary cases share. Each case is a static method of its own, named by p and the
 * number of its promise (or of both, where they share a sentence) and by what the document says there;
 * EdgesTest runs them all.
 */
class Edges {
    static final Class<?> INDEX = IndexOutOfBoundsException.class;
    static final Class<?> ARGUMENT = IllegalArgumentException.class;
    static final Class<?> STATE = IllegalStateException.class;
    static final Class<?> ELEMENT = NoSuchElementException.class;

    static final int MIN = Integer.MIN_VALUE;
    static final int MAX = Integer.MAX_VALUE;

    static final String R = "hand right;";
    /** From the little finger up to the thumb there is no link: no fingering is allowed. */
    static final String BARRED = "hand right;play 60 by 5;play 80 by 1;";

    private static String running = "";
    private static int faults = 0;

    /** A call; what it answers is not looked at. */
    interface Call {
        void run();
    }

    /** Runs each case of a class, notes the promises they are of, and returns how many cases failed. */
    static int failedCases(Class<?> cases, Set<Integer> promises) throws IllegalAccessException {
        Method[] methods = cases.getDeclaredMethods();
        Arrays.sort(methods, Comparator.comparing(Method::getName));
        int failed = 0;
        for (Method m : methods) {
            if (!m.getName().matches("p\\d\\d_\\w+") || !Modifier.isStatic(m.getModifiers())) {
                continue;
            }
            for (String part : m.getName().split("_")) {
                if (part.matches("p\\d\\d")) {
                    promises.add(Integer.parseInt(part.substring(1)));
                }
            }
            running = cases.getSimpleName() + "." + m.getName();
            faults = 0;
            try {
                m.invoke(null);
            } catch (InvocationTargetException e) {
                fault("threw " + e.getCause());
            }
            failed += faults > 0 ? 1 : 0;
        }
        return failed;
    }

    private static void fault(String what) {
        faults++;
        int line = StackWalker.getInstance().walk(frames -> frames
                .filter(f -> !f.getClassName().equals("Edges") && f.getMethodName().startsWith("p"))
                .findFirst().map(StackWalker.StackFrame::getLineNumber).orElse(0));
        System.out.println(running + ", line " + line + ": " + what);
    }

    static void due(long got, long want) {
        if (got != want) {
            fault("answered " + got + ", due is " + want);
        }
    }

    static void due(double got, double want) {
        if (got != want) {
            fault("answered " + got + ", due is " + want);
        }
    }

    static void due(String got, String want) {
        if (!got.equals(want)) {
            fault("answered " + got + ", due is " + want);
        }
    }

    static void thrown(Class<?> want, Call call) {
        Class<?> got = null;
        try {
            call.run();
        } catch (RuntimeException e) {
            got = e.getClass();
        }
        if (got != want) {
            fault("threw " + got + ", due is " + want);
        }
    }

    /** The call throws this, and nothing is another one then; what can be undone is asked by the case itself. */
    static void refused(HandFingers x, Class<?> want, Call call) {
        String before = state(x);
        thrown(want, call);
        due(state(x), before);
    }

    /** The call throws this for each of the numbers, and nothing is another one then. */
    static void refusedEach(HandFingers x, Class<?> want, int[] numbers, IntConsumer call) {
        String before = state(x);
        for (int number : numbers) {
            thrown(want, () -> call.accept(number));
        }
        due(state(x), before);
    }

    /** All that can be asked of a piece by few calls (an object is good for 512 of them), the text buffer's length and the error's position. */
    static String state(HandFingers x) {
        StringBuilder all = new StringBuilder();
        all.append(x.count(2) == 1 ? "right" : "left");
        for (int weight = 0; weight < 10; weight++) {
            all.append(' ').append(x.weight(weight));
        }
        for (int one = 1; one <= 5; one++) {
            for (int other = one + 1; other <= 5; other++) {
                all.append(' ').append(spanOf(x, one, other));
            }
        }
        int events = x.count(0);
        for (int event = 0; event < events; event++) {
            all.append(' ').append(eventOf(x, event));
        }
        return all.append(" buffer ").append(x.append(0, 0, 0, 0, 0)).append(" error ").append(x.errorPosition()).toString();
    }

    static String spanOf(HandFingers x, int one, int other) {
        return one + "-" + other + ":" + x.span(one, other, 0) + "," + x.span(one, other, 1) + "," + x.span(one, other, 2);
    }

    /** For each note its key and its set, then the rest. */
    static String eventOf(HandFingers x, int event) {
        StringBuilder all = new StringBuilder("[");
        int notes = x.event(event, 0);
        for (int note = 0; note < notes; note++) {
            all.append(x.note(event, note, 0)).append('/').append(x.note(event, note, 1)).append(' ');
        }
        return all.append("rest ").append(x.event(event, 1)).append(']').toString();
    }

    /** Appends the text by twenty bytes a call and returns the last length. */
    static int tell(HandFingers x, String text) {
        int length = x.append(0, 0, 0, 0, 0);
        for (int at = 0; at < text.length(); at += 20) {
            length = x.append(four(text, at), four(text, at + 4), four(text, at + 8), four(text, at + 12), four(text, at + 16));
        }
        return length;
    }

    private static int four(String text, int from) {
        int four = 0;
        for (int at = from; at < from + 4; at++) {
            four = four << 8 | (at < text.length() ? text.charAt(at) & 255 : 0);
        }
        return four;
    }

    static int load(HandFingers x, String text) {
        tell(x, text);
        return x.load();
    }

    static int costOfTold(HandFingers x, String text) {
        tell(x, text);
        return x.costOfTold();
    }

    static int faultOfTold(HandFingers x, String text) {
        tell(x, text);
        return x.faultOfTold();
    }

    static HandFingers piece(String text) {
        HandFingers x = new HandFingers();
        if (load(x, text) < 0) {
            fault("no piece, by the error at " + x.errorPosition() + ": " + text);
        }
        return x;
    }

    static String written(HandFingers x) {
        StringBuilder text = new StringBuilder();
        for (int left = x.writeFingers(); left > 0; left--) {
            text.append((char) x.writtenByte(text.length()));
        }
        return text.toString();
    }

    /** The text has this error, and leaves everything but the buffer and the position as it was. */
    static void error(String text, int code, int position) {
        HandFingers x = piece("hand left;weight jump 7;span 2 3 3 4 5;play 61 63 rest 2 by 4 0;");
        String before = state(x);
        due(load(x, text), code);
        due(x.errorPosition(), position);
        due(state(x), before.replace("error -1", "error " + position));
        due(x.undo(), 0);
    }

    static void syntaxError(String text, int position) {
        error(text, HandFingers.SYNTAX_ERROR, position);
    }

    static void valueError(String text, int position) {
        error(text, HandFingers.VALUE_ERROR, position);
    }

    static void misfit(String text, int position) {
        error(text, HandFingers.MISFIT, position);
    }

    static void tooMany(String text, int position) {
        error(text, HandFingers.TOO_MANY, position);
    }
}
