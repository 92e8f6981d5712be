import java.lang.reflect.InvocationTargetException;
import java.lang.reflect.Method;
import java.util.ArrayList;
import java.util.Arrays;
import java.util.HashMap;
import java.util.List;
import java.util.Map;
import java.util.regex.Matcher;
import java.util.regex.Pattern;

/** Long runs of calls, the same every time, on a HandFingers and on a SlowHand: each answer must be the same. */
public final class RandomRunsTest {
    // Behind each name a letter for each argument; see argument().
    private static final String[] CALLS = {
        "load", "errorPosition", "count w", "event ew", "note enw", "weight g", "span ffw", "link fkfk", "best",
        "finger en", "part ew", "many b", "costWith enf", "reaches", "uses f", "sure", "mean", "costOfTold",
        "faultOfTold", "otherHand", "transposed t", "easiest a", "restBehind", "play pkzzr", "drop e", "setRest er",
        "let enfb", "setWeight gv", "setSpan ffddd", "setHand b", "transpose t", "fix", "undo", "save s", "restore s",
        "writeFingers", "writtenByte x"
    };
    private static final String CHANGES = " load play drop setRest let setWeight setSpan setHand transpose fix undo restore ";

    private static final Map<String, Method> FAST = new HashMap<>();
    private static final Map<String, Method> SLOW = new HashMap<>();
    private static final Map<String, Integer> ANSWERED = new HashMap<>();

    private long seed;
    private HandFingers fast = new HandFingers();
    private SlowHand slow = new SlowHand();
    private final List<String> told = new ArrayList<>();
    private boolean wrong = false;

    private RandomRunsTest(long seed) {
        this.seed = seed * 7919 + 17;
    }

    public static void main(String[] args) throws Exception {
        for (Method m : HandFingers.class.getDeclaredMethods()) {
            FAST.put(m.getName(), m);
        }
        for (Method m : SlowHand.class.getDeclaredMethods()) {
            SLOW.put(m.getName(), m);
        }
        int runs = args.length > 0 ? Integer.parseInt(args[0]) : 400;
        int from = args.length > 1 ? Integer.parseInt(args[1]) : 0;
        int wrongRuns = 0;
        for (int i = from; i < from + runs && wrongRuns < 5; i++) {
            RandomRunsTest run = new RandomRunsTest(i);
            run.go(i % 20 == 19 ? 40 : 2 + i % 5, i % 20 == 19 ? 60 : 300);
            if (run.wrong) {
                wrongRuns++;
                System.out.println("in run " + i + ":");
                run.told.forEach(System.out::println);
            }
        }
        if (args.length > 2) {
            System.out.println(new java.util.TreeMap<>(ANSWERED));
        }
        System.out.println(wrongRuns == 0 ? "all runs are as due" : wrongRuns + " runs are not as due");
        if (wrongRuns != 0) {
            System.exit(1);
        }
    }

    private int below(int bound) {
        seed = seed * 6364136223846793005L + 1442695040888963407L;
        return (int) ((seed >>> 33) % bound);
    }

    private int between(int least, int greatest) {
        return least + below(greatest - least + 1);
    }

    private boolean chance(int percent) {
        return below(100) < percent;
    }

    private int oneOf(int... numbers) {
        return numbers[below(numbers.length)];
    }

    private void go(int events, int calls) throws Exception {
        tell(pieceText(events));
        call("load", new Object[0]);
        compareStates();
        for (int i = 0; i < calls && !wrong; i++) {
            int kind = below(100);
            if (kind < 6) {
                String text = pieceText(between(0, events));
                tell(chance(40) ? text : chance(30) ? spoilt(text) : misnumbered(text));
                call("load", new Object[0]);
            } else if (kind < 14) {
                tell(chance(60) ? fingeringText() : chance(50) ? spoilt(fingeringText()) : misnumbered(fingeringText()));
                call(chance(50) ? "costOfTold" : "faultOfTold", new Object[0]);
            } else if (kind < 15 && chance(50)) {
                append(bytes(spoilt("hand right;" + " ".repeat(below(500)))));
            } else {
                randomCall(events);
            }
        }
    }

    private void randomCall(int events) throws Exception {
        String[] call = CALLS[below(CALLS.length)].split(" ");
        if (call[0].equals("play") && slow.now.events.size() >= events && chance(80)) {
            return;
        }
        Object[] arguments = new Object[call.length < 2 ? 0 : call[1].length()];
        for (int i = 0; i < arguments.length; i++) {
            arguments[i] = argument(call[1].charAt(i), i == 0 || !(arguments[i - 1] instanceof Integer) ? 0
                    : (Integer) arguments[i - 1]);
        }
        call(call[0], arguments);
        if (CHANGES.contains(" " + call[0] + " ")) {
            compareStates();
        }
    }

    private Object argument(char letter, int ahead) {
        if (letter == 'b') {
            return chance(50);
        }
        if (chance(2)) {
            return oneOf(Integer.MIN_VALUE, Integer.MAX_VALUE, -1, 1000, -100, 7, 1 << 30);
        }
        switch (letter) {
            case 'w':
                return between(chance(90) ? 0 : -1, 7) % (chance(50) ? 3 : 8);
            case 'e':
                return chance(95) ? below(Math.max(1, slow.now.events.size())) : oneOf(-1, slow.now.events.size());
            case 'p':
                return chance(95) ? below(slow.now.events.size() + 1) : oneOf(-1, slow.now.events.size() + 1);
            case 'n':
                int notes = ahead >= 0 && ahead < slow.now.events.size() ? slow.now.events.get(ahead).keys.size() : 1;
                return chance(95) ? below(notes) : oneOf(-1, notes);
            case 'f':
                return chance(96) ? between(1, 5) : oneOf(0, 6);
            case 'g':
                return chance(95) ? below(10) : oneOf(-1, 10);
            case 'k':
                return chance(94) ? between(50, 75) : oneOf(20, 21, 108, 109);
            case 'z':
                return chance(30) ? 0 : ahead + between(chance(90) ? 1 : -1, 8);
            case 'r':
                return chance(95) ? between(0, 9) : oneOf(-1, 10);
            case 'v':
                return chance(80) ? below(12) : oneOf(-1, 0, 99, 100, 9, 10);
            case 'd':
                return chance(95) ? Math.min(24, ahead + below(6)) : oneOf(0, 1, 24, 25, ahead - 1);
            case 't':
                return chance(80) ? between(-13, 13) : between(-88, 88);
            case 'a':
                return chance(90) ? below(25) : oneOf(-1, 24, 25);
            case 's':
                return chance(90) ? below(2) : oneOf(-1, 2);
            default:
                return below(12);
        }
    }

    private String space(boolean needed) {
        return needed || chance(30) ? " ".repeat(chance(80) ? 1 : 2) : "";
    }

    private String number(int number) {
        return (chance(95) ? "" : "00") + number;
    }

    private String pieceText(int events) {
        StringBuilder text = new StringBuilder(space(false) + "hand" + space(true) + (chance(50) ? "right" : "left"));
        text.append(space(false)).append(";").append(space(false));
        for (int i = chance(50) ? 0 : below(4); i > 0; i--) {
            text.append("weight ").append(SlowHand.NAMES.get(below(10))).append(space(false));
            text.append(number(chance(80) ? below(8) : below(100))).append(space(false)).append(";").append(space(false));
        }
        for (int i = chance(50) ? 0 : below(4); i > 0; i--) {
            int one = between(1, 4);
            int low = between(1, 10);
            int high = low + below(6);
            text.append("span ").append(one).append(" ").append(between(one + 1, 5)).append(" ").append(low);
            text.append(" ").append(number(high)).append(" ").append(high + below(8)).append(";").append(space(false));
        }
        boolean chords = chance(60);
        for (int i = 0; i < events && text.length() < 570; i++) {
            int key = chance(98) ? between(52, 68) : oneOf(21, 22, 108, 105);
            text.append("play").append(space(false)).append(key);
            int notes = 1;
            for (; chords && notes < 3 && chance(40); notes++) {
                key += between(1, 6);
                text.append(" ").append(Math.min(108 - 2 + notes, key));
            }
            if (chance(20)) {
                text.append(space(false)).append("rest").append(space(false)).append(number(below(10)));
            }
            if (chance(10)) {
                text.append(space(false)).append("by");
                for (int n = 0; n < notes; n++) {
                    text.append(" ").append(chance(50) ? 0 : between(1, 5));
                }
            }
            text.append(space(false)).append(";").append(space(false));
        }
        return text.toString();
    }

    private String fingeringText() {
        StringBuilder text = new StringBuilder();
        if (chance(50)) {
            for (int[] f : slow.now.solve().best < 0 || slow.now.events.size() > 6 ? new ArrayList<int[]>() : slow.now.first()) {
                for (int one : f) {
                    text.append(chance(93) ? one : between(1, 5)).append(" ");
                }
            }
            return text.toString();
        }
        for (int n = slow.now.notes() + (chance(80) ? 0 : oneOf(-1, 1)); n > 0; n--) {
            text.append(space(false)).append(number(chance(98) ? between(1, 5) : oneOf(0, 6))).append(" ");
        }
        return text.toString();
    }

    private String spoilt(String text) {
        StringBuilder spoilt = new StringBuilder(text);
        for (int i = chance(70) ? 1 : 2; i > 0 && spoilt.length() > 0; i--) {
            int at = below(spoilt.length());
            switch (below(9)) {
                case 0:
                    spoilt.deleteCharAt(at);
                    break;
                case 1:
                    spoilt.setLength(at);
                    break;
                case 2:
                    spoilt.setCharAt(at, (char) oneOf(';', ' ', '0', '9', 'a', 'z', '`', '{', '/', ':', 'A', 9, 1, 128, 255));
                    break;
                case 3:
                    spoilt.insert(at, (char) oneOf(';', ' ', '0', '1', '5', '9', 'a', 'y', 'P', '-', '.', 200));
                    break;
                case 4:
                case 5:
                case 6:
                case 7:
                    spoilt.insert(Math.max(spoilt.indexOf(" ", at), spoilt.indexOf(";", at)) + 1, new String[] {" play ", " by 1 ", " rest 9 ", "; play 60 ", " 0 ", " 24 25 ",
                        " 109 ", "weight free 0;", "span 1 2 1 1 1;", " 99999999999999999999 ", " 4294967297 ",
                        " 5 ", " 60 ", " 1 2 "}[below(14)]);
                    break;
                default:
                    spoilt.append(spoilt.substring(at));
            }
        }
        return spoilt.toString();
    }

    /** The text with one of its numbers replaced or repeated, so that what is wrong then is seldom the grammar. */
    private String misnumbered(String text) {
        Matcher m = Pattern.compile("[0-9]+").matcher(text);
        List<int[]> numbers = new ArrayList<>();
        while (m.find()) {
            numbers.add(new int[] {m.start(), m.end()});
        }
        if (numbers.isEmpty()) {
            return text;
        }
        int[] one = numbers.get(below(numbers.size()));
        int number = oneOf(0, 1, 2, 3, 4, 5, 6, 9, 10, 20, 21, 24, 25, 60, 61, 62, 66, 99, 100, 108, 109);
        String kept = chance(30) ? text.substring(one[0], one[1]) + " " : "";
        return text.substring(0, one[0]) + kept + number(number) + text.substring(one[1]);
    }

    private static byte[] bytes(String text) {
        byte[] bytes = new byte[text.length()];
        for (int i = 0; i < bytes.length; i++) {
            bytes[i] = (byte) text.charAt(i);
        }
        return bytes;
    }

    private void tell(String text) throws Exception {
        append(bytes(text));
    }

    private void append(byte[] bytes) throws Exception {
        for (int at = 0; at < bytes.length;) {
            Object[] five = new Object[5];
            for (int i = 0; i < 5; i++) {
                int four = 0;
                for (int b = 0; b < 4; b++) {
                    four = four << 8 | (at < bytes.length && !chance(3) ? bytes[at++] & 255 : 0);
                }
                five[i] = four;
            }
            call("append", five);
        }
    }

    private void compareStates() throws Exception {
        for (int what = 0; what <= 6; what++) {
            call("count", new Object[] {what});
        }
        for (int event = 0; event < slow.now.events.size(); event++) {
            call("event", new Object[] {event, 0});
            call("event", new Object[] {event, 1});
            for (int note = 0; note < slow.now.events.get(event).keys.size(); note++) {
                call("note", new Object[] {event, note, 0});
                call("note", new Object[] {event, note, 1});
            }
        }
        for (int weight = 0; weight < 10; weight++) {
            call("weight", new Object[] {weight});
        }
        for (int pair = 0; pair < 25; pair++) {
            call("span", new Object[] {1 + pair / 5, 1 + pair % 5, below(3)});
        }
    }

    private void call(String name, Object[] arguments) throws Exception {
        if (wrong) {
            return;
        }
        String got = answer(FAST.get(name), fast, arguments);
        String due = answer(SLOW.get(name), slow, arguments);
        ANSWERED.merge(name + " " + (due.startsWith("throws") || due.startsWith("-") ? due : "fine"), 1, Integer::sum);
        told.add(name + Arrays.toString(arguments) + " " + got);
        if (!got.equals(due)) {
            told.add("^ due is " + due);
            wrong = true;
        }
    }

    private static String answer(Method method, Object object, Object[] arguments) throws Exception {
        try {
            return String.valueOf(method.invoke(object, arguments));
        } catch (InvocationTargetException e) {
            return "throws " + e.getCause().getClass().getName();
        }
    }
}
