import java.util.NoSuchElementException;

/** Each promise of the document by itself: ordinary inputs, the edges that it names, and wrong inputs. */
public final class PromisesTest {
    private static final Class<?> INDEX = IndexOutOfBoundsException.class;
    private static final Class<?> ARGUMENT = IllegalArgumentException.class;
    private static final Class<?> STATE = IllegalStateException.class;
    private static final Class<?> ELEMENT = NoSuchElementException.class;

    private static final String FIVE = "hand right;play 60;play 62;play 64;play 65;play 67;";
    // The thumb cannot pass under the little finger so far away: nothing is allowed.
    private static final String NOTHING = "hand right;play 60 by 5;play 80 by 1;";

    private static int wrong = 0;
    private static int promise = 0;

    private interface Call {
        double answer();
    }

    public static void main(String[] args) {
        newObject();
        append();
        load();
        loadErrors();
        errorPosition();
        count();
        event();
        note();
        weight();
        span();
        link();
        linkOfLeftHand();
        best();
        bestOfChords();
        finger();
        part();
        many();
        costWith();
        reaches();
        uses();
        sure();
        mean();
        costOfTold();
        longPieces();
        faultOfTold();
        otherHand();
        transposed();
        easiest();
        restBehind();
        play();
        drop();
        setRest();
        let();
        setWeight();
        setSpan();
        setHand();
        transpose();
        fix();
        undo();
        save();
        restore();
        writeFingers();
        writtenByte();
        System.out.println(wrong == 0 ? "all promises hold" : wrong + " answers are not as due");
        if (wrong != 0) {
            System.exit(1);
        }
    }

    private static void due(String what, double got, double want) {
        if (got != want) {
            wrong++;
            System.out.println("promise " + promise + ": " + what + " answered " + got + ", due is " + want);
        }
    }

    private static void thrown(String what, Class<?> want, Call call) {
        Object got = null;
        try {
            got = call.answer();
        } catch (RuntimeException e) {
            got = e.getClass();
        }
        if (got != want) {
            wrong++;
            System.out.println("promise " + promise + ": " + what + " answered " + got + ", due is " + want);
        }
    }

    private static void tell(HandFingers x, String text) {
        for (int at = 0; at < text.length(); at += 20) {
            int[] fours = new int[5];
            for (int i = at; i < at + 20 && i < text.length(); i++) {
                fours[(i - at) / 4] |= text.charAt(i) << 24 - 8 * ((i - at) % 4);
            }
            x.append(fours[0], fours[1], fours[2], fours[3], fours[4]);
        }
    }

    private static int load(HandFingers x, String text) {
        tell(x, text);
        return x.load();
    }

    private static HandFingers piece(String text) {
        HandFingers x = new HandFingers();
        if (load(x, text) < 0) {
            wrong++;
            System.out.println("promise " + promise + ": not read at " + x.errorPosition() + ": " + text);
        }
        return x;
    }

    private static int costOfTold(HandFingers x, String text) {
        tell(x, text);
        return x.costOfTold();
    }

    private static int faultOfTold(HandFingers x, String text) {
        tell(x, text);
        return x.faultOfTold();
    }

    private static String written(HandFingers x) {
        char[] text = new char[x.writeFingers()];
        for (int i = 0; i < text.length; i++) {
            text[i] = (char) x.writtenByte(i);
        }
        return new String(text);
    }

    private static void dueText(String what, String got, String want) {
        if (!got.equals(want)) {
            wrong++;
            System.out.println("promise " + promise + ": " + what + " answered " + got + ", due is " + want);
        }
    }

    private static void dueWeights(HandFingers x, int... values) {
        for (int i = 0; i < 10; i++) {
            due("weight " + i, x.weight(i), values[i]);
        }
    }

    private static void dueSpan(HandFingers x, int one, int other, int low, int high, int limit) {
        due("low of " + one + other, x.span(one, other, 0), low);
        due("high of " + one + other, x.span(one, other, 1), high);
        due("limit of " + one + other, x.span(one, other, 2), limit);
    }

    private static void dueFirstSpans(HandFingers x) {
        dueSpan(x, 1, 2, 1, 5, 8);
        dueSpan(x, 1, 3, 3, 7, 10);
        dueSpan(x, 1, 4, 5, 9, 12);
        dueSpan(x, 1, 5, 7, 11, 14);
        dueSpan(x, 2, 3, 1, 2, 5);
        dueSpan(x, 2, 4, 3, 4, 7);
        dueSpan(x, 2, 5, 5, 7, 10);
        dueSpan(x, 3, 4, 1, 2, 4);
        dueSpan(x, 3, 5, 3, 4, 7);
        dueSpan(x, 4, 5, 1, 2, 5);
    }

    private static void newObject() {
        promise = 1;
        HandFingers x = new HandFingers();
        due("events", x.count(0), 0);
        due("the right hand", x.count(2), 1);
        dueWeights(x, 2, 5, 3, 1, 2, 4, 1, 2, 4, 5);
        dueFirstSpans(x);
        due("best", x.best(), 0);
        due("errorPosition", x.errorPosition(), HandFingers.NONE);
        due("an empty buffer", x.append(0, 0, 0, 0, 0), 0);
        thrown("writtenByte(0)", INDEX, () -> x.writtenByte(0));
        thrown("undo", STATE, x::undo);
        thrown("restore(0)", STATE, () -> x.restore(0));
        thrown("restore(1)", STATE, () -> x.restore(1));
        due("load of nothing", x.load(), HandFingers.SYNTAX_ERROR);
        due("its position", x.errorPosition(), 0);
        due("NONE", HandFingers.NONE, -1);
        due("SYNTAX_ERROR", HandFingers.SYNTAX_ERROR, -2);
        due("VALUE_ERROR", HandFingers.VALUE_ERROR, -3);
        due("MISFIT", HandFingers.MISFIT, -4);
        due("TOO_MANY", HandFingers.TOO_MANY, -5);
    }

    private static void append() {
        promise = 2;
        HandFingers x = new HandFingers();
        due("bytes in order, without zeros", x.append(0x68006100, 0x00006e64, 0x00200000, 0x72696768, 0x0074003b), 11);
        due("load", x.load(), 0);
        due("errorPosition", x.errorPosition(), -1);
        due("twenty bytes", x.append(0x68616e64, 0x20202020, 0x20202020, 0x20202020, 0x20206c65), 20);
        due("five more", x.append(0, 0x6674, 0, 0, 0x3b), 23);
        due("load", x.load(), 0);
        due("the left hand", x.count(2), 0);
        due("bytes above 127", x.append(0x80ff0000, 0, 0, 0, 0xfe), 3);
        due("are no token", x.load(), -2);
        due("at the first of them", x.errorPosition(), 0);
        due("the buffer is empty again", x.append(0x20000000, 0, 0, 0, 0), 1);
        for (int i = 0; i < 29; i++) {
            x.append(0x20202020, 0x20202020, 0x20202020, 0x20202020, 0x20202020);
        }
        thrown("601 bytes", STATE, () -> x.append(0x41414141, 0x41414141, 0x41414141, 0x41414141, 0x41414141));
        due("18 more", x.append(0x20202020, 0x20202020, 0x20202020, 0x20202020, 0x20200000), 599);
        thrown("two more", STATE, () -> x.append(0x4141, 0, 0, 0, 0));
        thrown("one, three, one more", STATE, () -> x.append(1, 0, 0x10101, 0, 1));
        due("one more", x.append(0, 0, 0, 0, 0x3b), 600);
        due("none more", x.append(0, 0, 0, 0, 0), 600);
        thrown("one too many", STATE, () -> x.append(0, 0, 0x41000000, 0, 0));
        due("load", x.load(), -2);
        due("only the last byte is no space", x.errorPosition(), 599);
        due("the buffer is empty again", x.append(0, 0, 0, 0, 0), 0);
    }

    private static void load() {
        promise = 3;
        HandFingers x = piece("  hand  left ;weight reach 6; weight stretch 99;weight reach007;span 2 4 1 24 24;"
                + "span 1 2 3 3 3;play 60 by 0;play 21 64 108rest9;play 61rest 0by 5;play 61 63 rest 1 by 3 0 ; ");
        due("events", x.count(0), 4);
        due("hand", x.count(2), 0);
        dueWeights(x, 99, 5, 3, 1, 2, 4, 1, 2, 4, 7);
        dueSpan(x, 2, 4, 1, 24, 24);
        dueSpan(x, 4, 2, 1, 24, 24);
        dueSpan(x, 1, 2, 3, 3, 3);
        dueSpan(x, 1, 3, 3, 7, 10);
        due("notes", x.event(1, 0), 3);
        due("keys", x.note(1, 0, 0), 21);
        due("keys", x.note(1, 1, 0), 64);
        due("keys", x.note(1, 2, 0), 108);
        due("rest", x.event(0, 1), 0);
        due("rest", x.event(1, 1), 9);
        due("rest", x.event(3, 1), 1);
        due("by", x.note(0, 0, 1), 31);
        due("by", x.note(1, 2, 1), 31);
        due("by", x.note(2, 0, 1), 16);
        due("by", x.note(3, 0, 1), 4);
        due("by", x.note(3, 1, 1), 31);
        due("a text with an error", load(x, "hand right;play 60;play"), -2);
        due("leaves the piece", x.count(0), 4);
        due("and the hand", x.count(2), 0);
        due("empties the buffer", x.append(0, 0, 0, 0, 0), 0);
        due("weights and spans are as at first", load(x, "hand right;play 60;"), 1);
        due("the buffer is empty", x.append(0, 0, 0, 0, 0), 0);
        dueWeights(x, 2, 5, 3, 1, 2, 4, 1, 2, 4, 5);
        dueFirstSpans(x);
        String[] names = {"stretch", "cross", "repeat", "change", "jump", "black", "weak", "ease", "free", "reach"};
        for (int i = 0; i < 10; i++) {
            due("events", load(x, "hand right;weight " + names[i] + " " + (70 + i) + ";"), 0);
            due(names[i], x.weight(i), 70 + i);
        }
        due("no more spaces than needed", load(x, "handright;weightcross1;"), -2);
        due("a word is as long as it can be", x.errorPosition(), 0);
        due("digits end a word", load(x, "hand right;weight cross1;span1 2 3 4 5;play60rest1by1;"), 1);
        due("forty events", load(x, "hand right;" + "play 60;".repeat(40)), 40);
    }

    private static void dueError(String text, int code, int position) {
        HandFingers x = new HandFingers();
        due(text, load(x, text), code);
        due("position of " + text, x.errorPosition(), position);
        thrown("undo after " + text, STATE, x::undo);
    }

    private static void loadErrors() {
        String r = "hand right;";
        dueError("  ", -2, 2);
        dueError("Hand right;", -2, 0);
        dueError("hands right;", -2, 0);
        dueError("hand", -2, 4);
        dueError("hand  middle;", -2, 6);
        dueError("hand right", -2, 10);
        dueError("hand right:", -2, 10);
        dueError("hand right\t;", -2, 10);
        dueError(r + ";", -2, 11);
        dueError(r + "hand left;", -2, 11);
        dueError(r + "weight  loud 5;", -2, 19);
        dueError(r + "weight 5;", -2, 18);
        dueError(r + "weight jump;", -2, 22);
        dueError(r + "weight jump 5", -2, 24);
        dueError(r + "weight jump 5 5;", -2, 25);
        dueError(r + "weight jump 100;", -3, 23);
        dueError(r + "weight jump 4294967296;", -3, 23);
        dueError(r + "weight jump 18446744073709551616;", -3, 23);
        dueError(r + "weight jump -1;", -2, 23);
        dueError(r + "span 1 2 1 1 1;weight jump 5;", -2, 26);
        dueError(r + "play 60;span 1 2 1 1 1;", -2, 19);
        dueError(r + "play 60;weight jump 5;", -2, 19);
        dueError(r + "span 0 2 1 1 1;", -3, 16);
        dueError(r + "span 6 2 1 1 1;", -3, 16);
        dueError(r + "span 3 3 1 1 1;", -4, 18);
        dueError(r + "span 3 2 1 1 1;", -4, 18);
        dueError(r + "span 5 6 1 1 1;", -3, 18);
        dueError(r + "span 5 0 1 1 1;", -3, 18);
        dueError(r + "span 1 2 0 1 1;", -3, 20);
        dueError(r + "span 1 2 25 1 1;", -3, 20);
        dueError(r + "span 1 2 5 4 5;", -4, 22);
        dueError(r + "span 1 2 5 0 5;", -3, 22);
        dueError(r + "span 1 2 5 25 25;", -3, 22);
        dueError(r + "span 1 2 5 6 5;", -4, 24);
        dueError(r + "span 1 2 5 6 25;", -3, 24);
        dueError(r + "span 1 2 5 6;", -2, 23);
        dueError(r + "span 1 2 5 6 7 8;", -2, 26);
        dueError(r + "play;", -2, 15);
        dueError(r + "play 20;", -3, 16);
        dueError(r + "play 109;", -3, 16);
        dueError(r + "play 60 60;", -4, 19);
        dueError(r + "play 60 59;", -4, 19);
        dueError(r + "play 60 20;", -3, 19);
        dueError(r + "play 60 61 61;", -4, 22);
        dueError(r + "play 60 62 61;", -4, 22);
        dueError(r + "play 60 61 62 63;", -5, 25);
        dueError(r + "play 60 61 62 0;", -5, 25);
        dueError(r + "play 60 61 62 1", -5, 25);
        dueError(r + "play 60 rest;", -2, 23);
        dueError(r + "play 60 rest 10;", -3, 24);
        dueError(r + "play 60 rest 1 2;", -2, 26);
        dueError(r + "play 60 by;", -2, 21);
        dueError(r + "play 60 by by;", -2, 22);
        dueError(r + "play 60 by 6;", -3, 22);
        dueError(r + "play 60 61 by 6", -3, 25);
        dueError(r + "play 60 61 by 1;", -2, 26);
        dueError(r + "play 60 61 by 1", -2, 26);
        dueError(r + "play 60 by 1 1;", -5, 24);
        dueError(r + "play 60 by 1 9;", -5, 24);
        dueError(r + "play 60 61 by 1 2 9;", -5, 29);
        dueError(r + "play 60 by 1 rest 1;", -2, 24);
        dueError(r + "play 60 plays;", -2, 19);
        dueError(r + "play 60", -2, 18);
        dueError(r + "play 60  ", -2, 20);
        dueError(r + "plays 60;", -2, 11);
        dueError(r + "play 60;;", -2, 19);
        dueError(r + "play 60; 60;", -2, 20);
        dueError(r + "play 60;".repeat(40) + " play", -5, 332);
        dueError(r + "play 60;".repeat(40) + "plays", -2, 331);
    }

    private static void errorPosition() {
        promise = 4;
        HandFingers x = new HandFingers();
        due("load", load(x, "hand right;play 0;"), -3);
        due("errorPosition", x.errorPosition(), 16);
        due("it stays", x.errorPosition(), 16);
        due("load", load(x, "hand right;play 60;"), 1);
        due("errorPosition", x.errorPosition(), -1);
        due("costOfTold", costOfTold(x, " 6"), -3);
        due("errorPosition", x.errorPosition(), 1);
        due("costOfTold", costOfTold(x, "1"), 0);
        due("errorPosition", x.errorPosition(), -1);
        due("faultOfTold", faultOfTold(x, "1 x"), -2);
        due("errorPosition", x.errorPosition(), 2);
        x.undo();
        due("undo leaves it", x.errorPosition(), 2);
        x.setHand(false);
        due("a change leaves it", x.errorPosition(), 2);
        due("faultOfTold", faultOfTold(x, ""), -10);
        due("errorPosition", x.errorPosition(), -1);
    }

    private static void count() {
        promise = 5;
        HandFingers x = piece("hand left;play 70 73 74 rest 4;play 61 rest 3;play 64 66 rest 9;");
        int[] numbers = {3, 6, 0, 61, 74, 4, 1};
        for (int what = 0; what < numbers.length; what++) {
            due("count " + what, x.count(what), numbers[what]);
        }
        thrown("count(7)", ARGUMENT, () -> x.count(7));
        thrown("count(-1)", ARGUMENT, () -> x.count(-1));
        x.setWeight(8, 3);
        due("free passages", x.count(6), 2);
        x.setWeight(8, 0);
        due("free passages", x.count(6), 2);
        x.setWeight(8, 10);
        due("free passages", x.count(6), 0);
        HandFingers all = piece("hand right;play 48 49 50;play 51 52 53;play 54 55 56;play 57 58 59;");
        due("black keys", all.count(5), 5);
        HandFingers none = new HandFingers();
        int[] nothing = {0, 0, 1, -1, -1, 0, 0};
        for (int what = 0; what < nothing.length; what++) {
            due("count " + what, none.count(what), nothing[what]);
        }
    }

    private static void event() {
        promise = 6;
        HandFingers x = piece("hand right;play 60 62 rest 7;play 60 67 74;play 60;play 60 61 by 4 0;play 60 80;");
        due("notes", x.event(0, 0), 2);
        due("rest", x.event(0, 1), 7);
        due("rest", x.event(4, 1), 0);
        // A distance below the low fits, too.
        due("ways", x.event(0, 2), 10);
        // 7 and 7 fit 1-2-4, 1-2-5 and 1-3-5; 2-3, 3-4 and 4-5 reach no 7.
        due("ways", x.event(1, 2), 3);
        due("ways", x.event(2, 2), 5);
        due("ways", x.event(3, 2), 1);
        due("ways", x.event(4, 2), 0);
        x.let(2, 0, 3, false);
        due("ways", x.event(2, 2), 4);
        thrown("event(5, 0)", INDEX, () -> x.event(5, 0));
        thrown("event(-1, 9)", INDEX, () -> x.event(-1, 9));
        thrown("event(0, 3)", ARGUMENT, () -> x.event(0, 3));
        thrown("event(0, -1)", ARGUMENT, () -> x.event(0, -1));
        x.setHand(false);
        due("ways of the left hand", x.event(3, 2), 3);
    }

    private static void note() {
        promise = 7;
        HandFingers x = piece("hand right;play 60;play 61 64 68 by 0 2 5;");
        due("key", x.note(1, 2, 0), 68);
        due("key", x.note(0, 0, 0), 60);
        due("set", x.note(1, 0, 1), 31);
        due("set", x.note(1, 1, 1), 2);
        due("set", x.note(1, 2, 1), 16);
        thrown("note(2, 0, 0)", INDEX, () -> x.note(2, 0, 0));
        thrown("note(-1, 0, 0)", INDEX, () -> x.note(-1, 0, 0));
        thrown("note(0, 1, 5)", INDEX, () -> x.note(0, 1, 5));
        thrown("note(1, 3, 0)", INDEX, () -> x.note(1, 3, 0));
        thrown("note(1, -1, 0)", INDEX, () -> x.note(1, -1, 0));
        thrown("note(1, 0, 2)", ARGUMENT, () -> x.note(1, 0, 2));
        thrown("note(1, 0, -1)", ARGUMENT, () -> x.note(1, 0, -1));
        x.drop(1);
        thrown("a note of a dropped event", INDEX, () -> x.note(1, 0, 0));
    }

    private static void weight() {
        promise = 8;
        HandFingers x = piece("hand right;weight reach 0;");
        dueWeights(x, 2, 5, 3, 1, 2, 4, 1, 2, 4, 0);
        thrown("weight(10)", INDEX, () -> x.weight(10));
        thrown("weight(-1)", INDEX, () -> x.weight(-1));
    }

    private static void span() {
        promise = 9;
        HandFingers x = piece("hand right;span 4 5 2 3 9;");
        dueSpan(x, 4, 5, 2, 3, 9);
        dueSpan(x, 5, 4, 2, 3, 9);
        dueSpan(x, 5, 1, 7, 11, 14);
        thrown("span(0, 1, 0)", INDEX, () -> x.span(0, 1, 0));
        thrown("span(6, 6, 0)", INDEX, () -> x.span(6, 6, 0));
        thrown("span(1, 6, 7)", INDEX, () -> x.span(1, 6, 7));
        thrown("span(3, 3, 0)", ARGUMENT, () -> x.span(3, 3, 0));
        thrown("span(1, 3, 3)", ARGUMENT, () -> x.span(1, 3, 3));
        thrown("span(1, 3, -1)", ARGUMENT, () -> x.span(1, 3, -1));
    }

    private static void link() {
        promise = 10;
        HandFingers x = new HandFingers();
        due("repeat", x.link(5, 60, 5, 60), 3);
        due("change", x.link(5, 60, 1, 60), 1);
        due("jump", x.link(3, 21, 3, 108), 174);
        due("jump down", x.link(3, 60, 3, 59), 2);
        due("within the span", x.link(2, 60, 4, 63), 0);
        due("below the low", x.link(1, 60, 5, 61), 12);
        due("above the high", x.link(2, 60, 3, 65), 6);
        due("above the limit", x.link(2, 60, 3, 66), -1);
        due("down", x.link(3, 65, 2, 60), 6);
        due("too far down", x.link(5, 75, 1, 60), -1);
        // 1 before 2 within reach, but the way is up: not a crossing.
        due("too far up, though within reach", piece("hand right;span 1 2 1 2 3;").link(1, 60, 2, 65), -1);
        due("over the thumb", x.link(1, 65, 3, 60), 5);
        due("under the fourth", x.link(4, 60, 1, 65), 5);
        due("under the second", x.link(2, 60, 1, 61), 5);
        due("out of reach", x.link(4, 60, 1, 66), -1);
        due("never the little finger", x.link(5, 60, 1, 61), -1);
        due("nor over it", x.link(1, 61, 5, 60), -1);
        due("nor without the thumb", x.link(3, 60, 2, 61), -1);
        due("nor so", x.link(2, 61, 4, 60), -1);
        thrown("link(0, 1, 1, 1)", INDEX, () -> x.link(0, 1, 1, 1));
        thrown("link(1, 60, 6, 60)", INDEX, () -> x.link(1, 60, 6, 60));
        thrown("link(1, 20, 1, 60)", ARGUMENT, () -> x.link(1, 20, 1, 60));
        thrown("link(1, 60, 1, 109)", ARGUMENT, () -> x.link(1, 60, 1, 109));
        thrown("link(1, 109, 1, 60)", ARGUMENT, () -> x.link(1, 109, 1, 60));
        thrown("link(1, 60, 1, 20)", ARGUMENT, () -> x.link(1, 60, 1, 20));
        x.setWeight(9, 0);
        due("no reach", x.link(2, 60, 1, 61), -1);
    }

    private static void linkOfLeftHand() {
        HandFingers x = piece("hand left;weight stretch 7;weight cross 11;weight reach 9;");
        due("greater fingers go down", x.link(1, 60, 2, 55), 0);
        due("lesser fingers go up", x.link(4, 55, 1, 60), 0);
        due("off by one", x.link(1, 60, 2, 54), 7);
        due("a crossing", x.link(1, 60, 2, 69), 11);
        due("out of reach", x.link(1, 60, 2, 70), -1);
        due("never the little finger", x.link(1, 60, 5, 61), -1);
        due("too far", x.link(1, 60, 5, 45), -1);
    }

    private static void best() {
        promise = 11;
        due("five notes", piece(FIVE).best(), 1);
        due("no notes", new HandFingers().best(), 0);
        due("nothing allowed", piece(NOTHING).best(), -1);
        due("a free passage", piece("hand right;play 60 rest 4 by 5;play 81 by 1;").best(), 0);
        due("not quite free", piece("hand right;play 60 rest 3 by 5;play 81 by 1;").best(), -1);
        due("free at once", piece("hand right;weight free 0;play 60 by 5;play 81 by 1;").best(), 0);
        due("black", piece("hand right;play 61 by 1;play 66 by 5;").best(), 4 + 4 + 4);
        due("white", piece("hand right;play 60 by 1;play 65 by 5;").best(), 4);
        due("weak", piece("hand right;weight weak 9;play 61 by 4;").best(), 9);
        due("a jump of 20", piece("hand right;play 60 by 3;play 80 by 3;").best(), 40);
        due("eased", piece("hand right;play 60 rest 3 by 3;play 80 by 3;").best(), 34);
        due("not below 0", piece("hand right;weight ease 90;play 60 rest 3 by 3;play 80 by 3;").best(), 0);
        due("the event is not eased", piece("hand right;weight ease 90;play 60 rest 3 by 3;play 80 by 4;"
                + "play 81 by 5;").best(), -1);
        due("the event is not eased", piece("hand right;weight ease 90;play 60 rest 3 by 3;play 62 by 4;").best(), 1);
        due("a crossing", piece("hand right;play 60 by 3;play 62 by 1;").best(), 5);
    }

    private static void bestOfChords() {
        due("the first and the last note are linked",
                piece("hand right;play 60 64 by 1 3;play 60 64 by 1 3;").best(), 3 + 3);
        due("changes", piece("hand right;play 60 64 by 1 3;play 60 64 by 2 4;").best(), 1 + 1 + 1);
        due("of three notes too", piece("hand right;play 60 63 67 by 1 2 5;play 60 64 67 by 1 3 5;").best(), 3 + 3 + 2);
        due("a single note is both", piece("hand right;play 60 by 1;play 60 67 by 1 5;").best(), 3);
        due("from two to one", piece("hand right;play 60 67 by 1 5;play 67 by 5;").best(), 3);
        due("one link between single notes", piece("hand right;play 60 by 1;play 60 by 1;").best(), 3);
        due("one of both is not allowed", piece("hand right;play 60 67 by 1 5;play 50 by 1;").best(), -1);
        due("left hand", piece("hand left;play 60 67 by 5 1;play 60 by 5;").best(), 3);
        // From the thumb on 67 to 2 on 60: 7, off by 2; from 5 to 2 the wrong way.
        due("left hand", piece("hand left;play 60 67 by 5 1;play 55 by 2;").best(), -1);
        due("left hand", piece("hand left;play 60 67 by 5 1;play 62 by 4;").best(), 1 + 0 + 0);
        due("order", piece("hand left;play 60 67 by 1 5;").best(), -1);
        due("order", piece("hand right;play 60 67 by 5 1;").best(), -1);
        due("one finger only once", piece("hand right;play 60 61 by 2 2;").best(), -1);
        due("stretch of an event", piece("hand right;play 60 68 76 by 1 2 5;").best(), 6 + 2);
        due("too far", piece("hand right;play 60 69 by 1 2;").best(), -1);
        due("the outer notes are not asked", piece("hand right;span 1 5 1 1 1;play 60 63 67 by 1 2 5;").best(),
                piece("hand right;play 60 63 67 by 1 2 5;").best());
        due("eased once for both links",
                piece("hand right;play 60 64 rest 1 by 1 3;play 60 64 by 1 3;").best(), 3 + 3 - 2);
    }

    private static void finger() {
        promise = 12;
        HandFingers x = piece(FIVE);
        for (int i = 0; i < 5; i++) {
            due("finger", x.finger(i, 0), i + 1);
        }
        HandFingers left = piece("hand left;play 60 64 67;");
        due("first of the cheapest", left.finger(0, 0), 5);
        due("first of the cheapest", left.finger(0, 1), 3);
        due("first of the cheapest", left.finger(0, 2), 1);
        // Of 1-2 and 2-3 and 3-5 and so on the first one; then what comes behind it.
        HandFingers x2 = piece("hand right;play 60;play 62;");
        due("the lesser finger first", x2.finger(0, 0), 1);
        due("the lesser finger then", x2.finger(1, 0), 2);
        HandFingers two = piece("hand left;weight stretch 0;weight weak 0;weight black 0;play 60 61;");
        due("the lesser finger on the lesser key", two.finger(0, 0), 2);
        due("the lesser finger on the lesser key", two.finger(0, 1), 1);
        left.play(0, 60, 0, 0, 0);
        left.drop(1);
        thrown("a note of a dropped event", INDEX, () -> left.finger(1, 0));
        // The cheapest way does not begin with the cheapest step.
        HandFingers far = piece("hand right;play 60;play 62 by 1;play 64 by 2;");
        due("the thumb comes later", far.finger(0, 0), 1);
        thrown("finger(5, 0)", INDEX, () -> x.finger(5, 0));
        thrown("finger(-1, 0)", INDEX, () -> x.finger(-1, 0));
        thrown("finger(0, 1)", INDEX, () -> x.finger(0, 1));
        HandFingers none = piece(NOTHING);
        thrown("finger(0, 0)", ELEMENT, () -> none.finger(0, 0));
        thrown("finger(0, 1)", INDEX, () -> none.finger(0, 1));
    }

    private static void part() {
        promise = 13;
        HandFingers y = piece("hand right;play 60 66 rest 1 by 1 2;play 62 by 1;play 63 by 2;play 65 rest 4 by 1;"
                + "play 61 by 5;play 57 61 by 1 4;");
        due("off by 1", y.part(0, 0), 2);
        // 1 on 60 to 1 on 62: a jump of 2; 2 on 66 to 1 on 62: 4; less 2 for the rest.
        due("the passage into 1", y.part(1, 1), 4 + 0 - 2);
        due("the passage into 2", y.part(2, 1), 0);
        due("the passage into 3", y.part(3, 1), 5);
        due("a crossing", y.part(3, 2), 1);
        due("no crossing", y.part(2, 2), 0);
        due("a free passage", y.part(4, 1), 0);
        due("black", y.part(4, 0), 4);
        // 5 on 61 down to 1 on 57: 4, below 7 by 3; 5 to 4 on the same key.
        due("the passage into 5", y.part(5, 1), 6 + 1);
        due("weak, and below 5 by 1", y.part(5, 0), 1 + 2);
        due("nothing into the first", y.part(0, 1), 0);
        due("no crossing into the first", y.part(0, 2), 0);
        due("all of them", y.best(), 2 + 2 + 0 + 5 + 0 + 4 + 7 + 3);
        HandFingers two = piece("hand right;weight reach 9;play 60 62 rest 1 by 2 3;play 64 by 1;");
        due("two crossings", two.part(1, 2), 2);
        due("two crossings cost", two.part(1, 1), 10 - 2);
        two.setRest(0, 4);
        due("none if the passage is free", two.part(1, 2), 0);
        due("which costs nothing", two.part(1, 1), 0);
        HandFingers low = piece("hand right;weight reach 9;play 60 64 by 2 3;play 62 68 by 1 4;");
        // 2 on 60 to 1 on 62 is a crossing, 3 on 64 to 4 on 68 is none.
        due("one crossing", low.part(1, 2), 1);
        HandFingers high = piece("hand right;play 61 65 by 1 3;play 60 62 67 by 1 2 4;");
        // 3 on 65 to 4 on 67.
        due("no crossing", high.part(1, 2), 0);
        // From 1 on 64 back to 2 on 60 and to 3 on 62.
        due("both ends cross", piece("hand right;play 64 by 1;play 60 62 by 2 3;").part(1, 2), 2);
        // 1-2-3-1-2-3, and the third finger on 69 is weighed against the fourth on 70.
        HandFingers scale = piece("hand right;play 60;play 62;play 64;play 65;play 67;play 69 by 3;play 70;");
        int[] passages = {0, 0, 0, 5, 0, 0, 0};
        for (int e = 0; e < 7; e++) {
            due("the passage into " + e, scale.part(e, 1), passages[e]);
            due("crossings into " + e, scale.part(e, 2), e == 3 ? 1 : 0);
            due("only the last is weak", scale.part(e, 0), e == 6 ? 1 : 0);
        }
        due("together", scale.best(), 6);
        thrown("part(2, 0)", INDEX, () -> two.part(2, 0));
        thrown("part(-1, 7)", INDEX, () -> two.part(-1, 7));
        thrown("part(0, 3)", ARGUMENT, () -> two.part(0, 3));
        thrown("part(0, -1)", ARGUMENT, () -> two.part(0, -1));
        HandFingers none = piece(NOTHING);
        thrown("part(0, 0)", ELEMENT, () -> none.part(0, 0));
        thrown("part(0, 1)", ELEMENT, () -> none.part(0, 1));
        thrown("part(0, 3)", ARGUMENT, () -> none.part(0, 3));
    }

    private static void many() {
        promise = 14;
        due("no notes", new HandFingers().many(true), 1);
        due("no notes", new HandFingers().many(false), 1);
        due("nothing allowed", piece(NOTHING).many(true), 0);
        due("nothing allowed", piece(NOTHING).many(false), 0);
        HandFingers x = piece("hand right;play 60;play 60;");
        due("all", x.many(false), 25);
        // All pairs of different fingers but those with 4, which is weak.
        due("cheapest", x.many(true), 12);
        HandFingers free = piece("hand right;weight free 0;weight weak 0;" + "play 60;".repeat(20));
        due("5 to the power 20", free.many(false), 95367431640625L);
        due("5 to the power 20", free.many(true), 95367431640625L);
        free.play(0, 60, 62, 0, 0);
        due("10 times as many", free.many(false), 953674316406250L);
        // 1-2, 2-3, 3-4 and 4-5 need no stretch.
        due("4 times as many", free.many(true), 381469726562500L);
        free.play(0, 60, 0, 0, 0);
        due("no more than these", free.many(false), 1000000000000000L);
        due("no more than these", free.many(true), 1000000000000000L);
    }

    private static void costWith() {
        promise = 15;
        HandFingers x = piece("hand right;play 60;play 62;play 64 by 3;");
        // 1-2-3 is free of cost; 1-1-3, 2-2-3 jump.
        due("1 first", x.costWith(0, 0, 1), 0);
        due("2 first", x.costWith(0, 0, 2), 4);
        due("2 then", x.costWith(1, 0, 2), 0);
        // 3 on 60 by 3 to 64: 3-3-3 jumps twice: 8; 3-1-3: 5 + 2.
        due("3 first", x.costWith(0, 0, 3), 7);
        due("4 may not", x.costWith(2, 0, 4), -1);
        // From 5 to anything above but 5: no link; 5-5-3: none.
        due("5 first", x.costWith(0, 0, 5), -1);
        HandFingers chord = piece("hand right;play 60 64 67;");
        due("2 in the middle", chord.costWith(0, 1, 2), 1);
        due("5 never first", chord.costWith(0, 0, 5), -1);
        thrown("costWith(3, 0, 1)", INDEX, () -> x.costWith(3, 0, 1));
        thrown("costWith(-1, 0, 1)", INDEX, () -> x.costWith(-1, 0, 1));
        thrown("costWith(0, 1, 1)", INDEX, () -> x.costWith(0, 1, 1));
        thrown("costWith(0, -1, 1)", INDEX, () -> x.costWith(0, -1, 1));
        thrown("costWith(0, 0, 0)", INDEX, () -> x.costWith(0, 0, 0));
        thrown("costWith(0, 0, 6)", INDEX, () -> x.costWith(0, 0, 6));
        due("nothing is allowed", piece(NOTHING).costWith(0, 0, 5), -1);
    }

    private static void reaches() {
        promise = 16;
        due("all", piece(FIVE).reaches(), 5);
        due("no events", new HandFingers().reaches(), 0);
        due("one of two", piece(NOTHING).reaches(), 1);
        due("none", piece("hand right;play 60 90;play 60;").reaches(), 0);
        due("an event that nothing can play", piece("hand right;play 60;play 60;play 60 90;play 60;").reaches(), 2);
        // Both events can be reached from the one ahead, but not by the same finger.
        due("one way only", piece("hand right;play 60 by 1;play 62 by 2;play 60 by 1;play 60 by 5;play 61 by 1;"
                + "play 61;").reaches(), 4);
    }

    private static void uses() {
        promise = 17;
        HandFingers x = piece("hand right;play 60 64 67;play 60 by 1;play 67 by 5;");
        due("1", x.uses(1), 2);
        due("2", x.uses(2), 0);
        due("3", x.uses(3), 1);
        due("4", x.uses(4), 0);
        due("5", x.uses(5), 2);
        thrown("uses(0)", INDEX, () -> x.uses(0));
        thrown("uses(6)", INDEX, () -> x.uses(6));
        HandFingers none = piece(NOTHING);
        thrown("uses(1)", ELEMENT, () -> none.uses(1));
        thrown("uses(6)", INDEX, () -> none.uses(6));
        due("no notes", new HandFingers().uses(5), 0);
    }

    private static void sure() {
        promise = 18;
        due("all five", piece(FIVE).sure(), 5);
        due("no notes", new HandFingers().sure(), 0);
        due("neither", piece("hand right;play 60;play 60;").sure(), 0);
        // 60 64 67 by 1-3-5 alone; the single note far behind a rest may be played by four fingers.
        due("three of four", piece("hand right;play 60 64 67 rest 9;play 60;").sure(), 3);
        due("fixed", piece("hand right;play 60 by 4;play 60 by 2;").sure(), 2);
        // 1-2 and 1-3 on 4: the first note alone; with the left hand the second one alone.
        due("one of a chord", piece("hand right;play 60 64 by 1 0;").sure(), 1);
        due("one of a chord", piece("hand left;play 60 64 by 0 1;").sure(), 1);
        // From 1 both 2 and 3 cost 0.
        due("the first of both", piece("hand right;play 60 by 1;play 64;").sure(), 1);
        HandFingers none = piece(NOTHING);
        thrown("sure", ELEMENT, none::sure);
    }

    private static void mean() {
        promise = 19;
        due("one of five", piece(FIVE).mean(), 0.2);
        due("no notes", new HandFingers().mean(), 0.0);
        due("by notes, not events", piece("hand right;play 60 61 by 1 5;").mean(), 16.0 / 2.0);
        due("a third", piece("hand right;play 60;play 60 by 4;play 60 by 4 ;").mean(), 6.0 / 3.0);
        due("not rounded", piece("hand right;play 60;play 60;play 60;").mean(), 2.0 / 3.0);
        HandFingers none = piece(NOTHING);
        thrown("mean", ELEMENT, none::mean);
    }

    private static void costOfTold() {
        promise = 20;
        HandFingers x = piece("hand right;play 60 64;play 62;play 65 by 4;");
        // 1-2 on 60 64; 1 to 3: 2, below 3 by 1; 2 to 3 on 62: none allowed.
        due("not allowed", costOfTold(x, "1 2 3 4"), -10);
        // 1-3; 1 to 2: 0; 3 to 2: 0; 2 to 4: 0; weak.
        due("allowed", costOfTold(x, " 1  3 02 4 "), 1);
        due("emptied", x.append(0, 0, 0, 0, 0), 0);
        due("a finger that may not", costOfTold(x, "1 3 2 5"), -10);
        due("in no order", costOfTold(x, "3 1 2 4"), -10);
        due("fewer", costOfTold(x, "1 3 2"), -4);
        due("at the length", x.errorPosition(), 5);
        due("fewer", costOfTold(x, "1 3  "), -4);
        due("at the length", x.errorPosition(), 5);
        due("none", costOfTold(x, ""), -4);
        due("at the length", x.errorPosition(), 0);
        due("more", costOfTold(x, "1 3 2 4 1"), -5);
        due("at its first digit", x.errorPosition(), 8);
        due("whatever it is", costOfTold(x, "1 3 2 4 99"), -5);
        due("at its first digit", x.errorPosition(), 8);
        due("out of range", costOfTold(x, "1 6 2"), -3);
        due("at its first digit", x.errorPosition(), 2);
        due("out of range", costOfTold(x, "0"), -3);
        due("one number", costOfTold(x, "1324"), -3);
        due("at its first digit", x.errorPosition(), 0);
        due("a word", costOfTold(x, "1 3 by 2"), -2);
        due("at its first byte", x.errorPosition(), 4);
        due("a semicolon at the end", costOfTold(x, "1 3 2 4;"), -2);
        due("at its byte", x.errorPosition(), 7);
        due("a comma", costOfTold(x, "1,3 2 4"), -2);
        due("at its byte", x.errorPosition(), 1);
        due("emptied", x.append(0, 0, 0, 0, 0), 0);
        due("without notes", costOfTold(new HandFingers(), "  "), 0);
        due("a free passage", costOfTold(piece("hand right;play 60 rest 4;play 91;"), "5 1"), 0);
        due("passages and events", costOfTold(piece("hand right;play 61 rest 1;play 60 72;"), "1 1 5"), 4 + 2);
        thrown("a told fingering is no change", STATE, () -> toldAndUndone());
    }

    private static void longPieces() {
        HandFingers x = piece("hand left;weight repeat 0;" + "play 60 64 67;".repeat(40));
        due("5-3-1 all the way", x.best(), 0);
        due("told", costOfTold(x, "5 3 1 ".repeat(40)), 0);
        due("5 and 2 are off by 1", costOfTold(x, "5 3 1 ".repeat(39) + "5 2 1"), 2);
        due("no order", costOfTold(x, "5 3 1 ".repeat(39) + "5 1 3"), -10);
        due("fault", faultOfTold(x, "5 3 1 ".repeat(39) + "5 1 3"), 391);
        due("2 at the end", x.costWith(39, 1, 2), 2);
        due("one cheapest", x.many(true), 1);
        due("sure", x.sure(), 120);
        due("no other uses", x.uses(3), 40);
        // 4-2-1 on 61, 65 and 68: weak, and the thumb on a black key.
        due("one up", x.transposed(1), 40 * 5);
        due("reaches", x.reaches(), 40);
        x.drop(39);
        x.play(39, 21, 0, 0, 0);
        due("the last one is too far away", x.best(), -1);
        due("reaches", x.reaches(), 39);
        due("a rest would help", x.restBehind(), 38);
    }

    private static int toldAndUndone() {
        HandFingers x = new HandFingers();
        costOfTold(x, "");
        return x.undo();
    }

    private static void faultOfTold() {
        promise = 21;
        HandFingers x = piece("hand right;play 60;play 62 64 by 0 2;play 80 rest 5;play 60;play 61 66;");
        due("the first passage", faultOfTold(x, "5 1 2 1 1 1 2"), 12);
        due("the event ahead of the passage", faultOfTold(x, "5 1 3 1 1 1 2"), 11);
        due("in no order", faultOfTold(x, "1 3 2 1 1 1 2"), 11);
        due("the same finger twice", faultOfTold(x, "1 2 2 1 1 1 2"), 11);
        due("too far up", faultOfTold(x, "1 1 2 5 1 1 2"), 22);
        due("errorPosition", x.errorPosition(), -1);
        due("emptied", x.append(0, 0, 0, 0, 0), 0);
        due("fewer", faultOfTold(x, "1 1 2"), -4);
        due("at the length", x.errorPosition(), 5);
        due("emptied", x.append(0, 0, 0, 0, 0), 0);
        x.transpose(0);
        x.drop(2);
        x.setRest(1, 4);
        due("a free passage", faultOfTold(x, "1 1 2 5 1 2"), 32);
        due("a distance that does not fit", faultOfTold(x, "1 1 2 1 3 4"), 31);
        due("all is allowed", faultOfTold(x, "1 1 2 1 1 2"), -10);
        due("more", faultOfTold(x, "1 1 2 1 1 2 7"), -5);
        due("out of range", faultOfTold(x, "1 1 2 7"), -3);
        due("a byte", faultOfTold(x, "1 1 2 1 1 2 '"), -2);
        due("at it", x.errorPosition(), 12);
        due("the first event", faultOfTold(piece("hand right;play 60 by 1;"), "2"), 1);
        due("without notes", faultOfTold(new HandFingers(), ""), -10);
    }

    private static void otherHand() {
        promise = 22;
        due("the other hand cannot", piece("hand right;play 60 67 by 1 5;").otherHand(), -1);
        due("the right hand can", piece("hand left;play 60 67 by 1 5;").otherHand(), 0);
        due("no events", new HandFingers().otherHand(), 0);
        HandFingers x = piece("hand right;weight stretch 3;play 60 by 1;play 66 by 2;");
        due("a crossing is out of reach", x.otherHand(), -1);
        x.setWeight(9, 6);
        due("weights are as they are", x.otherHand(), 5);
        due("the hand is as it was", x.count(2), 1);
        due("and what it costs", x.best(), 3);
        x.setWeight(1, 8);
        due("asked anew", x.otherHand(), 8);
        due("nothing was changed", x.undo(), 2);
    }

    private static void transposed() {
        promise = 23;
        HandFingers x = piece("hand right;play 60 by 1;play 67 by 5;");
        due("as it is", x.transposed(0), 0);
        due("on two black keys", x.transposed(1), 8);
        due("on one black key", x.transposed(-1), 4);
        due("on white keys", x.transposed(2), 0);
        due("an octave and one", x.transposed(13), 8);
        due("as low as it can be", x.transposed(-39), 0);
        thrown("lower", ARGUMENT, () -> x.transposed(-40));
        due("as high as it can be", x.transposed(41), 0);
        thrown("higher", ARGUMENT, () -> x.transposed(42));
        due("not changed", x.note(0, 0, 0), 60);
        due("not changed", x.best(), 0);
        due("no change", x.undo(), 0);
        due("no events", x.transposed(87), 0);
        due("no events", x.transposed(-87), 0);
        thrown("88", ARGUMENT, () -> x.transposed(88));
        thrown("-88", ARGUMENT, () -> x.transposed(-88));
        due("nothing is allowed", piece(NOTHING).transposed(5), -1);
        HandFingers all = piece("hand right;play 21;play 108 by 3;");
        thrown("the greatest key", ARGUMENT, () -> all.transposed(1));
        thrown("the least key", ARGUMENT, () -> all.transposed(-1));
        HandFingers ends = piece("hand right;play 21 22 23;");
        // 1-2-3 at first; behind it the least key is black and 2-3-4 cheaper.
        due("best", ends.best(), 0);
        due("up to the end", ends.transposed(85), 1);
        thrown("and no further", ARGUMENT, () -> ends.transposed(86));
        HandFingers low = piece("hand right;play 106 107 108;");
        due("down to the end", low.transposed(-85), 0);
        thrown("and no further", ARGUMENT, () -> low.transposed(-86));
        thrown("the last key", ARGUMENT, () -> low.transposed(1));
    }

    private static void easiest() {
        promise = 24;
        HandFingers x = piece("hand right;play 61 by 1;");
        due("within nothing", x.easiest(0), 0);
        due("of both the negative one", x.easiest(1), -1);
        due("of many the nearest", x.easiest(24), -1);
        due("nowhere better", piece("hand right;play 60 by 1;").easiest(24), 0);
        // 22 and 25 are black; 1 up both are white: 23 and 26, 1 down both: 21 and 24.
        due("down", piece("hand right;play 22 by 1;play 25 by 1;").easiest(1), -1);
        due("up alone", piece("hand right;play 66 by 1;play 71 rest 9 by 1;play 61 by 1;play 57 by 1;").easiest(1), 1);
        due("not below the least key", piece("hand right;play 21 rest 9 by 3;play 70 by 1;").easiest(2), 1);
        // Both by the thumb: 61 and 59 have one black key, 60 and 58 too, 62 and 60 none.
        due("one up", piece("hand right;play 107 rest 9 by 3;play 61 rest 9 by 1;play 59 by 1;").easiest(1), 1);
        due("not above the greatest key",
                piece("hand right;play 108 rest 9 by 3;play 61 rest 9 by 1;play 59 by 1;").easiest(1), 0);
        // Side by side only 64 and 65, 71 and 72 and so on are both white.
        due("no nearer one", piece("hand right;play 61 by 1;play 62 by 1;").easiest(1), 0);
        due("the range itself", piece("hand right;play 61 by 1;play 62 by 1;").easiest(2), -2);
        due("the nearest", piece("hand right;play 61 by 1;play 62 by 1;").easiest(24), -2);
        due("the range itself", piece("hand right;play 62 by 1;play 63 by 1;").easiest(2), 2);
        due("the nearest", piece("hand right;play 62 by 1;play 63 by 1;").easiest(24), 2);
        due("no events", new HandFingers().easiest(24), 0);
        thrown("25", ARGUMENT, () -> x.easiest(25));
        thrown("-1", ARGUMENT, () -> x.easiest(-1));
        HandFingers none = piece(NOTHING);
        thrown("nothing is allowed", ELEMENT, () -> none.easiest(3));
        thrown("nor is the range", ARGUMENT, () -> none.easiest(25));
        due("no change", x.undo(), 0);
    }

    private static void restBehind() {
        promise = 25;
        due("no events", new HandFingers().restBehind(), -1);
        due("one event", piece("hand right;play 61 by 1;").restBehind(), -1);
        due("nothing to better", piece("hand right;play 60;play 62;").restBehind(), -1);
        HandFingers x = piece("hand right;play 60 by 1;play 62 by 1;play 65 by 1;play 67 by 1;");
        due("the dearest passage", x.restBehind(), 1);
        HandFingers same = piece("hand right;play 60 by 1;play 62 by 1;play 64 by 1;");
        due("of several the lowest", same.restBehind(), 0);
        due("so far away", piece(NOTHING).restBehind(), 0);
        due("two that cannot be", piece("hand right;play 60 by 5;play 80 by 1;play 60 by 5;play 80 by 1;").restBehind(), -1);
        due("the second of both", piece("hand right;play 60 by 1;play 62 by 1;play 70 by 5;play 80 by 1;").restBehind(), 2);
        HandFingers dropped = piece("hand right;play 60 by 1;play 70 by 1;");
        due("the first of two", dropped.restBehind(), 0);
        dropped.drop(1);
        due("none behind the last", dropped.restBehind(), -1);
        // All is cheap but from the event of one choice to that of five.
        due("the second of three", piece("hand right;play 60 64 by 1 3;play 60 64 by 1 3;play 70 rest 1;").restBehind(),
                1);
        HandFingers never = piece("hand right;weight free 10;weight ease 1;play 60 by 1;play 80 by 1;play 60 by 5;play 61 by 5;");
        due("a rest that frees nothing eases", never.restBehind(), -1);
        HandFingers ease = piece("hand right;weight free 10;weight ease 1;play 60 by 1;play 80 by 1;play 82 by 1;");
        due("a rest that frees nothing eases", ease.restBehind(), 0);
        ease.setRest(0, 9);
        due("there is one already", ease.restBehind(), 1);
        due("no change", ease.event(1, 1), 0);
        ease.setWeight(7, 0);
        due("nothing is eased", ease.restBehind(), -1);
    }

    private static void play() {
        promise = 26;
        HandFingers x = new HandFingers();
        due("the first one", x.play(0, 60, 0, 0, 0), 1);
        due("ahead of it", x.play(0, 21, 22, 108, 9), 2);
        due("between both", x.play(1, 61, 65, 0, 3), 3);
        due("at the end", x.play(3, 108, 0, 0, 1), 4);
        int[][] keys = {{21, 22, 108}, {61, 65}, {60}, {108}};
        int[] rests = {9, 3, 0, 1};
        for (int e = 0; e < 4; e++) {
            due("notes", x.event(e, 0), keys[e].length);
            due("rest", x.event(e, 1), rests[e]);
            for (int n = 0; n < keys[e].length; n++) {
                due("key", x.note(e, n, 0), keys[e][n]);
                due("set", x.note(e, n, 1), 31);
            }
        }
        x.let(0, 0, 1, false);
        x.play(0, 60, 0, 0, 0);
        due("sets move along", x.note(1, 0, 1), 30);
        due("the new one has all", x.note(0, 0, 1), 31);
        thrown("play(6)", INDEX, () -> x.play(6, 60, 0, 0, 0));
        thrown("play(-1) with a wrong key", INDEX, () -> x.play(-1, 0, 0, 0, 0));
        int[][] refused = {{20, 0, 0, 0}, {109, 0, 0, 0}, {0, 0, 0, 0}, {60, 60, 0, 0}, {60, 59, 0, 0}, {60, 109, 0, 0},
            {60, 61, 61, 0}, {60, 62, 61, 0}, {60, 61, 109, 0}, {60, 0, 61, 0}, {60, -1, 0, 0}, {60, 61, -1, 0},
            {60, 0, 0, 10}, {60, 0, 0, -1}};
        for (int[] r : refused) {
            thrown("play " + java.util.Arrays.toString(r), ARGUMENT, () -> x.play(0, r[0], r[1], r[2], r[3]));
        }
        due("events", x.count(0), 5);
        due("no change but the six", x.undo(), 5);
        HandFingers full = piece("hand right;" + "play 60;".repeat(39));
        due("the fortieth", full.play(39, 60, 62, 64, 0), 40);
        due("no more", full.play(40, 60, 0, 0, 0), -10);
        due("nowhere", full.play(0, 60, 0, 0, 0), -10);
        thrown("a wrong key", ARGUMENT, () -> full.play(0, 20, 0, 0, 0));
        thrown("a wrong place", INDEX, () -> full.play(41, 60, 0, 0, 0));
        due("it is no change", full.undo(), 1);
        due("the fortieth is gone", full.count(0), 39);
    }

    private static void drop() {
        promise = 27;
        HandFingers x = piece("hand right;play 60 62 rest 1 by 1 2;play 70 rest 2;play 80 82 84 rest 3 by 0 0 3;");
        thrown("drop(3)", INDEX, () -> x.drop(3));
        thrown("drop(-1)", INDEX, () -> x.drop(-1));
        due("drop(0)", x.drop(0), 2);
        due("key", x.note(0, 0, 0), 70);
        due("notes", x.event(0, 0), 1);
        due("rest", x.event(0, 1), 2);
        due("notes", x.event(1, 0), 3);
        due("rest", x.event(1, 1), 3);
        due("key", x.note(1, 2, 0), 84);
        due("set", x.note(1, 2, 1), 4);
        due("set", x.note(1, 1, 1), 31);
        due("drop(1)", x.drop(1), 1);
        due("drop(0)", x.drop(0), 0);
        thrown("drop(0)", INDEX, () -> x.drop(0));
        due("all is back", x.undo(), 3);
        x.undo();
        x.undo();
        due("all is back", x.note(2, 2, 1), 4);
        due("best is asked anew", x.best(), piece("hand right;play 60 62 rest 1 by 1 2;play 70 rest 2;"
                + "play 80 82 84 rest 3 by 0 0 3;").best());
    }

    private static void setRest() {
        promise = 28;
        HandFingers x = piece("hand right;play 60 rest 2 by 3;play 80 by 3;");
        due("best", x.best(), 36);
        due("the rest before", x.setRest(0, 3), 2);
        due("the rest", x.event(0, 1), 3);
        due("best", x.best(), 34);
        due("the rest before", x.setRest(0, 9), 3);
        due("the rest before", x.setRest(0, 0), 9);
        due("best", x.best(), 40);
        due("behind the last", x.setRest(1, 9), 0);
        due("best", x.best(), 40);
        thrown("setRest(2, 10)", INDEX, () -> x.setRest(2, 10));
        thrown("setRest(-1, 0)", INDEX, () -> x.setRest(-1, 0));
        thrown("setRest(0, 10)", ARGUMENT, () -> x.setRest(0, 10));
        thrown("setRest(0, -1)", ARGUMENT, () -> x.setRest(0, -1));
        due("the changes", x.undo(), 4);
    }

    private static void let() {
        promise = 29;
        HandFingers x = piece("hand right;play 60;play 60 64 by 1 3;");
        due("without 1", x.let(0, 0, 1, false), 30);
        due("without 5", x.let(0, 0, 5, false), 14);
        due("again", x.let(0, 0, 5, false), 14);
        due("with 1", x.let(0, 0, 1, true), 15);
        due("3 and 2", x.let(1, 1, 2, true), 6);
        due("the other note", x.note(1, 0, 1), 1);
        due("none is left", x.let(1, 0, 1, false), 0);
        due("nothing is allowed", x.best(), -1);
        due("the changes", x.undo(), 6);
        thrown("let(2, 0, 1)", INDEX, () -> x.let(2, 0, 1, true));
        thrown("let(-1, 0, 1)", INDEX, () -> x.let(-1, 0, 1, true));
        thrown("let(0, 1, 1)", INDEX, () -> x.let(0, 1, 1, true));
        thrown("let(0, -1, 1)", INDEX, () -> x.let(0, -1, 1, true));
        thrown("let(0, 0, 0)", INDEX, () -> x.let(0, 0, 0, true));
        thrown("let(0, 0, 6)", INDEX, () -> x.let(0, 0, 6, false));
        due("nothing changed", x.note(0, 0, 1), 15);
    }

    private static void setWeight() {
        promise = 30;
        HandFingers x = piece("hand right;play 61 by 1;");
        due("best", x.best(), 4);
        due("black before", x.setWeight(5, 99), 4);
        due("best", x.best(), 99);
        due("black before", x.setWeight(5, 0), 99);
        due("best", x.best(), 0);
        for (int i = 0; i < 10; i++) {
            x.setWeight(i, 20 + i);
        }
        dueWeights(x, 20, 21, 22, 23, 24, 25, 26, 27, 28, 29);
        thrown("setWeight(10, 100)", INDEX, () -> x.setWeight(10, 100));
        thrown("setWeight(-1, 0)", INDEX, () -> x.setWeight(-1, 0));
        thrown("setWeight(0, 100)", ARGUMENT, () -> x.setWeight(0, 100));
        thrown("setWeight(0, -1)", ARGUMENT, () -> x.setWeight(0, -1));
        x.undo();
        dueWeights(x, 20, 21, 22, 23, 24, 25, 26, 27, 28, 5);
    }

    private static void setSpan() {
        promise = 31;
        HandFingers x = piece("hand right;play 60 64 by 2 4;");
        due("best", x.best(), 1);
        due("the limit before", x.setSpan(4, 2, 1, 3, 5), 7);
        dueSpan(x, 2, 4, 1, 3, 5);
        dueSpan(x, 4, 2, 1, 3, 5);
        due("off by 1", x.best(), 1 + 2);
        due("the limit before", x.setSpan(2, 4, 1, 3, 3), 5);
        due("too far", x.best(), -1);
        due("the limit before", x.setSpan(2, 4, 24, 24, 24), 3);
        due("off by 20", x.best(), 41);
        due("the limit before", x.setSpan(5, 1, 1, 1, 1), 14);
        int[][] outside = {{0, 1}, {1, 0}, {6, 6}, {5, 6}, {-1, -1}};
        for (int[] f : outside) {
            thrown("setSpan " + f[0] + " " + f[1], INDEX, () -> x.setSpan(f[0], f[1], 0, 0, 0));
        }
        int[][] refused = {{3, 3, 1, 1, 1}, {1, 2, 0, 1, 1}, {1, 2, 2, 1, 3}, {1, 2, 1, 3, 2}, {1, 2, 1, 1, 25},
            {1, 2, 1, 25, 25}, {1, 2, 25, 25, 25}, {1, 2, -1, 1, 1}};
        for (int[] s : refused) {
            thrown("setSpan " + java.util.Arrays.toString(s), ARGUMENT, () -> x.setSpan(s[0], s[1], s[2], s[3], s[4]));
        }
        dueSpan(x, 1, 2, 1, 5, 8);
        due("the changes", x.undo(), 4);
    }

    private static void setHand() {
        promise = 32;
        HandFingers x = piece("hand right;play 60 67 by 1 5;");
        due("the left one", x.setHand(false), -1);
        due("the left one", x.count(2), 0);
        due("best", x.best(), -1);
        due("the right one", x.setHand(true), 0);
        due("the right one", x.count(2), 1);
        due("again", x.setHand(true), 0);
        due("all three are changes", x.undo(), 3);
        due("sets stay", x.note(0, 1, 1), 16);
    }

    private static void transpose() {
        promise = 33;
        HandFingers x = piece("hand right;play 60 by 1;play 67 72 by 3 5;");
        int best = x.best();
        due("up one", x.transpose(1), best + 4 + 4);
        due("key", x.note(0, 0, 0), 61);
        due("key", x.note(1, 1, 0), 73);
        due("set", x.note(1, 1, 1), 16);
        thrown("too high", ARGUMENT, () -> x.transpose(36));
        thrown("too low", ARGUMENT, () -> x.transpose(-41));
        thrown("out of range", ARGUMENT, () -> x.transpose(88));
        thrown("out of range", ARGUMENT, () -> x.transpose(-88));
        due("as high as it can be", x.transpose(35), x.best());
        due("key", x.note(1, 1, 0), 108);
        due("as low as it can be", x.transpose(-75), x.best());
        due("key", x.note(0, 0, 0), 21);
        due("the changes", x.undo(), 3);
        due("key", x.note(0, 0, 0), 96);
        HandFingers one = piece("hand right;play 21 by 1;");
        due("all the way", one.transpose(87), 0);
        due("key", one.note(0, 0, 0), 108);
        due("and back", one.transpose(-87), 0);
        due("nothing is allowed", piece(NOTHING).transpose(1), -1);
    }

    private static void fix() {
        promise = 34;
        HandFingers x = piece("hand right;play 60;play 62;play 64;play 65 by 4;play 67;");
        due("open notes", x.fix(), 4);
        for (int i = 0; i < 5; i++) {
            due("set", x.note(i, 0, 1), 1 << i);
        }
        due("best", x.best(), 1);
        due("one fingering", x.many(false), 1);
        due("again", x.fix(), 0);
        due("both are changes", x.undo(), 2);
        due("and one more", x.undo(), 1);
        due("set", x.note(0, 0, 1), 31);
        HandFingers two = piece("hand left;play 60 64 67;");
        two.let(0, 1, 3, false);
        two.let(0, 1, 2, false);
        two.let(0, 1, 5, false);
        two.let(0, 1, 1, false);
        due("two of three", two.fix(), 2);
        due("set", two.note(0, 0, 1), 16);
        due("set", two.note(0, 1, 1), 8);
        HandFingers none = piece(NOTHING);
        thrown("fix", ELEMENT, none::fix);
        due("it is no change", none.undo(), 0);
        due("no notes", new HandFingers().fix(), 0);
    }

    private static void undo() {
        promise = 35;
        HandFingers x = new HandFingers();
        load(x, "hand left;weight jump 9;span 1 2 2 3 4;play 60 rest 3 by 2;play 62 64;");
        x.setHand(true);
        x.setWeight(4, 1);
        x.setSpan(1, 2, 1, 1, 1);
        x.setRest(0, 8);
        x.let(0, 0, 2, false);
        x.transpose(5);
        x.drop(0);
        thrown("a refused call", INDEX, () -> x.drop(7));
        load(x, "hand");
        tell(x, "1 2 3");
        due("undo of drop", x.undo(), 7);
        due("the position stays", x.errorPosition(), 4);
        due("the buffer stays", x.append(0, 0, 0, 0, 0), 5);
        due("events", x.count(0), 2);
        due("undo of transpose", x.undo(), 6);
        due("key", x.note(0, 0, 0), 60);
        due("undo of let", x.undo(), 5);
        due("set", x.note(0, 0, 1), 2);
        due("undo of setRest", x.undo(), 4);
        due("rest", x.event(0, 1), 3);
        due("undo of setSpan", x.undo(), 3);
        dueSpan(x, 2, 1, 2, 3, 4);
        due("undo of setWeight", x.undo(), 2);
        due("weight", x.weight(4), 9);
        due("undo of setHand", x.undo(), 1);
        due("hand", x.count(2), 0);
        due("undo of load", x.undo(), 0);
        due("hand", x.count(2), 1);
        due("events", x.count(0), 0);
        dueSpan(x, 2, 1, 1, 5, 8);
        thrown("no more", STATE, x::undo);
        HandFingers y = piece("hand right;play 60 by 3;");
        due("best", y.best(), 0);
        y.setWeight(6, 7);
        y.play(0, 60, 0, 0, 0);
        due("best", y.best(), 1);
        y.undo();
        due("best is asked anew", y.best(), 0);
        undoOfMany();
    }

    private static void undoOfMany() {
        HandFingers x = new HandFingers();
        for (int i = 1; i <= 30; i++) {
            x.setWeight(0, i);
        }
        for (int i = 7; i >= 0; i--) {
            due("undo", x.undo(), i);
            due("weight", x.weight(0), 22 + i);
        }
        thrown("older ones cannot", STATE, x::undo);
        x.setWeight(0, 90);
        x.setWeight(0, 91);
        due("a new one can", x.undo(), 1);
        x.setWeight(0, 92);
        due("a new one can", x.undo(), 1);
        due("weight", x.weight(0), 90);
        due("a new one can", x.undo(), 0);
        due("weight", x.weight(0), 22);
        HandFingers y = piece("hand right;play 60;");
        y.save(0);
        y.writeFingers();
        y.fix();
        y.play(1, 62, 0, 0, 0);
        y.restore(0);
        due("undo of restore", y.undo(), 3);
        due("events", y.count(0), 2);
        due("undo of play", y.undo(), 2);
        due("events", y.count(0), 1);
        due("undo of fix", y.undo(), 1);
        due("set", y.note(0, 0, 1), 31);
        due("undo of load", y.undo(), 0);
        due("best", y.best(), 0);
        due("what was saved stays", y.restore(0), 1);
        due("what was written stays", y.writtenByte(0), '1');
    }

    private static void save() {
        promise = 36;
        HandFingers x = piece("hand left;weight ease 9;span 3 4 2 3 4;play 60 64 rest 2 by 4 1;");
        x.save(1);
        x.save(0);
        thrown("save(2)", INDEX, () -> { x.save(2); return 0; });
        thrown("save(-1)", INDEX, () -> { x.save(-1); return 0; });
        due("it is no change", x.undo(), 0);
        x.save(0);
        due("in place of what was there", x.restore(0), 0);
        due("the other one", x.restore(1), 1);
        due("hand", x.count(2), 0);
        due("weight", x.weight(7), 9);
        dueSpan(x, 3, 4, 2, 3, 4);
        due("key", x.note(0, 1, 0), 64);
        due("rest", x.event(0, 1), 2);
        due("set", x.note(0, 0, 1), 8);
        due("undo is not saved", x.undo(), 1);
    }

    private static void restore() {
        promise = 37;
        HandFingers x = piece(FIVE);
        thrown("nothing is saved", STATE, () -> x.restore(0));
        thrown("nothing is saved", STATE, () -> x.restore(1));
        thrown("no slot", INDEX, () -> x.restore(2));
        thrown("no slot", INDEX, () -> x.restore(-1));
        x.save(1);
        thrown("nothing is saved there", STATE, () -> x.restore(0));
        x.setHand(false);
        x.drop(0);
        due("restore", x.restore(1), 5);
        due("hand", x.count(2), 1);
        due("best is asked anew", x.best(), 1);
        x.drop(0);
        x.transpose(3);
        due("it stays saved", x.restore(1), 5);
        due("as it was", x.note(0, 0, 0), 60);
        due("the changes", x.undo(), 6);
        due("the one before", x.count(0), 4);
    }

    private static void writeFingers() {
        promise = 38;
        dueText("five", written(piece(FIVE)), "1 2 3 4 5");
        dueText("no notes", written(new HandFingers()), "");
        dueText("free passages", written(piece("hand left;play 60 64 67 rest 4;play 60 rest 3;play 60 by 4;play 60 by 4;"
                + "play 60 rest 5 by 3;play 61 64 rest 9 by 4 2;")), "531' 1 4 4 3' 42");
        HandFingers x = piece("hand right;weight free 0;" + "play 60 64 67;".repeat(40));
        due("the longest", x.writeFingers(), 198);
        due("its end", x.writtenByte(197), '5');
        due("its last apostrophe", x.writtenByte(193), '\'');
        x.drop(0);
        due("it stays", x.writtenByte(197), '5');
        load(x, NOTHING);
        thrown("nothing is allowed", ELEMENT, x::writeFingers);
        due("it stays", x.writtenByte(197), '5');
        load(x, "hand right;play 60 by 4;");
        due("in place of it", x.writeFingers(), 1);
        due("in place of it", x.writtenByte(0), '4');
        thrown("no more", INDEX, () -> x.writtenByte(1));
        due("it is no change", x.undo(), 3);
    }

    private static void writtenByte() {
        promise = 39;
        HandFingers x = piece("hand right;play 60 rest 4 by 2;play 60 by 3;");
        thrown("none at first", INDEX, () -> x.writtenByte(0));
        due("length", x.writeFingers(), 4);
        due("a digit", x.writtenByte(0), 50);
        due("an apostrophe", x.writtenByte(1), 39);
        due("a space", x.writtenByte(2), 32);
        due("a digit", x.writtenByte(3), 51);
        thrown("behind the end", INDEX, () -> x.writtenByte(4));
        thrown("ahead of it", INDEX, () -> x.writtenByte(-1));
        thrown("far away", INDEX, () -> x.writtenByte(Integer.MAX_VALUE));
    }
}
