import java.util.NoSuchElementException;

public final class HandFingers {
    public static final int NONE = -1;
    public static final int SYNTAX_ERROR = -2;
    public static final int VALUE_ERROR = -3;
    public static final int MISFIT = -4;
    public static final int TOO_MANY = -5;

    private static final int REFUSED = -10;

    private static final int LEAST_KEY = 21;
    private static final int GREATEST_KEY = 108;
    private static final int OCTAVE = 12;
    private static final int MOST_BY = 87;
    private static final int MOST_RANGE = 24;
    private static final int MOST_EVENTS = 40;
    private static final int MOST_NOTES = 3;
    private static final int MOST_REST = 9;
    private static final int FINGERS = 5;
    private static final int ALL_FINGERS = 31;
    private static final int MOST_SPAN = 24;
    private static final int MOST_WEIGHT = 99;
    private static final int MOST_TEXT = 600;
    private static final int MOST_UNDO = 8;
    private static final int SLOTS = 2;
    private static final long MOST_WAYS = 1000000000000000L;

    // Two or three of five fingers, in the one order that the hand allows: ten ways each.
    private static final int MOST_CHOICES = 10;

    private static final int STRETCH = 0;
    private static final int CROSS = 1;
    private static final int REPEAT = 2;
    private static final int CHANGE = 3;
    private static final int JUMP = 4;
    private static final int BLACK = 5;
    private static final int WEAK = 6;
    private static final int EASE = 7;
    private static final int FREE = 8;
    private static final int REACH = 9;
    private static final int WEIGHTS = 10;

    private static final int[] FIRST_WEIGHTS = {2, 5, 3, 1, 2, 4, 1, 2, 4, 5};

    // As in a text: two fingers, low, high, limit.
    private static final int SPAN_NUMBERS = 5;
    private static final int[] FIRST_SPANS = {
        1, 2, 1, 5, 8,
        1, 3, 3, 7, 10,
        1, 4, 5, 9, 12,
        1, 5, 7, 11, 14,
        2, 3, 1, 2, 5,
        2, 4, 3, 4, 7,
        2, 5, 5, 7, 10,
        3, 4, 1, 2, 4,
        3, 5, 3, 4, 7,
        4, 5, 1, 2, 5
    };

    private static final int LINK_KEEPS_KEY = 0;
    private static final int LINK_JUMPS = 1;
    private static final int LINK_STRETCHES = 2;
    private static final int LINK_CROSSES = 3;
    private static final int LINK_BARRED = 4;

    private static final int END = 0;
    private static final int WORD = 1;
    private static final int NUMBER = 2;
    private static final int SEMICOLON = 3;
    private static final int STRANGE = 4;

    // Above every range, and far from where ten times it would wrap around.
    private static final int HUGE = 1000000;

    private final Piece now = new Piece();
    private final Piece draft = new Piece();
    private final Plan plan = new Plan();
    private final Plan otherPlan = new Plan();
    private final Text text = new Text();
    private final Row told = new Row(MOST_EVENTS * MOST_NOTES);
    private final Row written = new Row(MOST_EVENTS * (MOST_NOTES + 2));
    private int writtenLength = 0;
    private final Shelf past = new Shelf(MOST_UNDO);
    private int oldest = 0;
    private int undoable = 0;
    private final Shelf saved = new Shelf(SLOTS);

    public HandFingers() {
    }

    // ---- setup

    public int append(int a, int b, int c, int d, int e) throws IllegalStateException {
        int more = bytesIn(a) + bytesIn(b) + bytesIn(c) + bytesIn(d) + bytesIn(e);
        if (text.length + more > MOST_TEXT) {
            throw new IllegalStateException();
        }
        text.addBytes(a);
        text.addBytes(b);
        text.addBytes(c);
        text.addBytes(d);
        text.addBytes(e);
        return text.length;
    }

    public int load() {
        boolean fine = text.readPiece(draft);
        text.length = 0;
        if (!fine) {
            return text.error;
        }
        remember();
        now.copyFrom(draft);
        return now.events;
    }

    public int errorPosition() {
        return text.errorAt;
    }

    public int count(int what) throws IllegalArgumentException {
        switch (what) {
            case 0:
                return now.events;
            case 1:
                return now.allNotes();
            case 2:
                return now.right ? 1 : 0;
            case 3:
                return now.leastKey();
            case 4:
                return now.greatestKey();
            case 5:
                return now.blackNotes();
            case 6:
                return now.freePassages();
            default:
                throw new IllegalArgumentException();
        }
    }

    public int event(int event, int what) throws IndexOutOfBoundsException, IllegalArgumentException {
        needEvent(event);
        switch (what) {
            case 0:
                return now.sizes.get(event);
            case 1:
                return now.rests.get(event);
            case 2:
                plan.solve(now);
                return plan.choices.get(event);
            default:
                throw new IllegalArgumentException();
        }
    }

    public int note(int event, int note, int what) throws IndexOutOfBoundsException, IllegalArgumentException {
        needNote(event, note);
        switch (what) {
            case 0:
                return now.keyOf(event, note);
            case 1:
                return now.sets.get(placeOf(event, note));
            default:
                throw new IllegalArgumentException();
        }
    }

    public int weight(int weight) throws IndexOutOfBoundsException {
        needWeight(weight);
        return now.weights.get(weight);
    }

    public int span(int one, int other, int what) throws IndexOutOfBoundsException, IllegalArgumentException {
        needFinger(one);
        needFinger(other);
        if (one == other) {
            throw new IllegalArgumentException();
        }
        switch (what) {
            case 0:
                return now.lows.get(pairOf(one, other));
            case 1:
                return now.highs.get(pairOf(one, other));
            case 2:
                return now.limits.get(pairOf(one, other));
            default:
                throw new IllegalArgumentException();
        }
    }

    // ---- costs

    public int link(int finger, int key, int next, int nextKey)
            throws IndexOutOfBoundsException, IllegalArgumentException {
        needFinger(finger);
        needFinger(next);
        if (!isWithin(key, LEAST_KEY, GREATEST_KEY) || !isWithin(nextKey, LEAST_KEY, GREATEST_KEY)) {
            throw new IllegalArgumentException();
        }
        return now.costOfLink(finger, key, next, nextKey);
    }

    public int best() {
        plan.solve(now);
        return plan.least;
    }

    public int finger(int event, int note) throws IndexOutOfBoundsException, NoSuchElementException {
        needNote(event, note);
        needFingering();
        return plan.firstFinger(event, note);
    }

    public int part(int event, int what)
            throws IndexOutOfBoundsException, IllegalArgumentException, NoSuchElementException {
        needEvent(event);
        if (!isWithin(what, 0, 2)) {
            throw new IllegalArgumentException();
        }
        needFingering();
        if (what == 0) {
            return plan.firstEventCost(event);
        }
        if (event == 0) {
            return 0;
        }
        return what == 1 ? plan.firstPassageCost(event - 1) : plan.firstCrossings(now, event - 1);
    }

    public long many(boolean cheapest) {
        plan.solve(now);
        return plan.countWays(cheapest);
    }

    public int costWith(int event, int note, int finger) throws IndexOutOfBoundsException {
        needNote(event, note);
        needFinger(finger);
        plan.solve(now);
        return plan.leastWith(event, note, finger);
    }

    public int reaches() {
        plan.solve(now);
        return plan.eventsReached();
    }

    public int uses(int finger) throws IndexOutOfBoundsException, NoSuchElementException {
        needFinger(finger);
        needFingering();
        int uses = 0;
        for (int event = 0; event < now.events; event++) {
            for (int note = 0; note < now.sizes.get(event); note++) {
                uses += plan.firstFinger(event, note) == finger ? 1 : 0;
            }
        }
        return uses;
    }

    public int sure() throws NoSuchElementException {
        needFingering();
        int sure = 0;
        for (int event = 0; event < now.events; event++) {
            for (int note = 0; note < now.sizes.get(event); note++) {
                sure += Integer.bitCount(plan.cheapestFingers(event, note)) == 1 ? 1 : 0;
            }
        }
        return sure;
    }

    public double mean() throws NoSuchElementException {
        needFingering();
        int notes = now.allNotes();
        return notes == 0 ? 0.0 : (double) plan.least / (double) notes;
    }

    // ---- fingerings that are told

    public int costOfTold() {
        boolean fine = text.readFingering(now, told);
        text.length = 0;
        if (!fine) {
            return text.error;
        }
        int sum = 0;
        for (int event = 0; event < now.events; event++) {
            int cost = sumOf(toldEventCost(event), toldPassageCost(event));
            if (cost == NONE) {
                return REFUSED;
            }
            sum += cost;
        }
        return sum;
    }

    public int faultOfTold() {
        boolean fine = text.readFingering(now, told);
        text.length = 0;
        if (!fine) {
            return text.error;
        }
        for (int event = 0; event < now.events; event++) {
            if (toldEventCost(event) == NONE) {
                return 10 * event + 1;
            }
            if (toldPassageCost(event) == NONE) {
                return 10 * event + 2;
            }
        }
        return REFUSED;
    }

    // ---- what would be

    public int otherHand() {
        draft.copyFrom(now);
        draft.right = !now.right;
        otherPlan.forget();
        otherPlan.solve(draft);
        return otherPlan.least;
    }

    public int transposed(int by) throws IllegalArgumentException {
        needTransposable(by);
        plan.solve(now);
        return plan.leastShifted(now, by);
    }

    public int easiest(int range) throws IllegalArgumentException, NoSuchElementException {
        if (!isWithin(range, 0, MOST_RANGE)) {
            throw new IllegalArgumentException();
        }
        needFingering();
        int easiest = 0;
        int least = plan.least;
        for (int distance = 1; distance <= range; distance++) {
            // The lower one first: it wins where both cost the same.
            for (int by = -distance; by <= distance; by += 2 * distance) {
                if (now.canShift(by) && plan.leastShifted(now, by) < least) {
                    easiest = by;
                    least = plan.leastShifted(now, by);
                }
            }
        }
        return easiest;
    }

    public int restBehind() {
        plan.solve(now);
        int helpful = NONE;
        int least = plan.least;
        for (int event = 0; event < now.events - 1; event++) {
            int cost = plan.leastWithRest(now, event);
            if (cost != NONE && (least == NONE || cost < least)) {
                helpful = event;
                least = cost;
            }
        }
        return helpful;
    }

    // ---- changes

    public int play(int event, int a, int b, int c, int rest)
            throws IndexOutOfBoundsException, IllegalArgumentException {
        if (!isWithin(event, 0, now.events)) {
            throw new IndexOutOfBoundsException();
        }
        if (!areKeys(a, b, c) || !isWithin(rest, 0, MOST_REST)) {
            throw new IllegalArgumentException();
        }
        if (now.events >= MOST_EVENTS) {
            return REFUSED;
        }
        remember();
        now.openPlace(event);
        now.putNote(event, 0, a);
        if (b != 0) {
            now.putNote(event, 1, b);
        }
        if (c != 0) {
            now.putNote(event, 2, c);
        }
        now.rests.put(event, rest);
        return now.events;
    }

    public int drop(int event) throws IndexOutOfBoundsException {
        needEvent(event);
        remember();
        now.closePlace(event);
        return now.events;
    }

    public int setRest(int event, int rest) throws IndexOutOfBoundsException, IllegalArgumentException {
        needEvent(event);
        if (!isWithin(rest, 0, MOST_REST)) {
            throw new IllegalArgumentException();
        }
        remember();
        int before = now.rests.get(event);
        now.rests.put(event, rest);
        return before;
    }

    public int let(int event, int note, int finger, boolean may) throws IndexOutOfBoundsException {
        needNote(event, note);
        needFinger(finger);
        remember();
        int place = placeOf(event, note);
        int set = now.sets.get(place);
        now.sets.put(place, may ? set | bitOf(finger) : set & ~bitOf(finger));
        return now.sets.get(place);
    }

    public int setWeight(int weight, int value) throws IndexOutOfBoundsException, IllegalArgumentException {
        needWeight(weight);
        if (!isWithin(value, 0, MOST_WEIGHT)) {
            throw new IllegalArgumentException();
        }
        remember();
        int before = now.weights.get(weight);
        now.weights.put(weight, value);
        return before;
    }

    public int setSpan(int one, int other, int low, int high, int limit)
            throws IndexOutOfBoundsException, IllegalArgumentException {
        needFinger(one);
        needFinger(other);
        if (one == other || !isWithin(low, 1, MOST_SPAN) || !isWithin(high, low, MOST_SPAN)
                || !isWithin(limit, high, MOST_SPAN)) {
            throw new IllegalArgumentException();
        }
        remember();
        int before = now.limits.get(pairOf(one, other));
        now.putSpan(one, other, low, high, limit);
        return before;
    }

    public int setHand(boolean right) {
        remember();
        now.right = right;
        plan.solve(now);
        return plan.least;
    }

    public int transpose(int by) throws IllegalArgumentException {
        needTransposable(by);
        remember();
        now.shift(by);
        plan.solve(now);
        return plan.least;
    }

    public int fix() throws NoSuchElementException {
        needFingering();
        // The plan is forgotten here, but until it is solved anew it still tells the fingering.
        remember();
        int open = 0;
        for (int event = 0; event < now.events; event++) {
            for (int note = 0; note < now.sizes.get(event); note++) {
                int place = placeOf(event, note);
                open += Integer.bitCount(now.sets.get(place)) > 1 ? 1 : 0;
                now.sets.put(place, bitOf(plan.firstFinger(event, note)));
            }
        }
        return open;
    }

    public int undo() throws IllegalStateException {
        if (undoable == 0) {
            throw new IllegalStateException();
        }
        undoable--;
        past.takeOut((oldest + undoable) % MOST_UNDO, now);
        plan.forget();
        return undoable;
    }

    public void save(int slot) throws IndexOutOfBoundsException {
        needSlot(slot);
        saved.putIn(slot, now);
    }

    public int restore(int slot) throws IndexOutOfBoundsException, IllegalStateException {
        needSlot(slot);
        if (!saved.holds(slot)) {
            throw new IllegalStateException();
        }
        remember();
        saved.takeOut(slot, now);
        return now.events;
    }

    // ---- texts

    public int writeFingers() throws NoSuchElementException {
        needFingering();
        writtenLength = 0;
        for (int event = 0; event < now.events; event++) {
            if (event > 0) {
                write(' ');
            }
            for (int note = 0; note < now.sizes.get(event); note++) {
                write('0' + plan.firstFinger(event, note));
            }
            if (event < now.events - 1 && now.isFree(now.rests.get(event))) {
                write('\'');
            }
        }
        return writtenLength;
    }

    public int writtenByte(int index) throws IndexOutOfBoundsException {
        if (!isWithin(index, 0, writtenLength - 1)) {
            throw new IndexOutOfBoundsException();
        }
        return written.get(index);
    }

    // ---- what the calls share

    private void needEvent(int event) {
        if (!isWithin(event, 0, now.events - 1)) {
            throw new IndexOutOfBoundsException();
        }
    }

    private void needNote(int event, int note) {
        needEvent(event);
        if (!isWithin(note, 0, now.sizes.get(event) - 1)) {
            throw new IndexOutOfBoundsException();
        }
    }

    private void needFinger(int finger) {
        if (!isWithin(finger, 1, FINGERS)) {
            throw new IndexOutOfBoundsException();
        }
    }

    private void needWeight(int weight) {
        if (!isWithin(weight, 0, WEIGHTS - 1)) {
            throw new IndexOutOfBoundsException();
        }
    }

    private void needSlot(int slot) {
        if (!isWithin(slot, 0, SLOTS - 1)) {
            throw new IndexOutOfBoundsException();
        }
    }

    private void needTransposable(int by) {
        if (!isWithin(by, -MOST_BY, MOST_BY) || !now.canShift(by)) {
            throw new IllegalArgumentException();
        }
    }

    private void needFingering() {
        plan.solve(now);
        if (plan.least == NONE) {
            throw new NoSuchElementException();
        }
    }

    private void remember() {
        if (undoable == MOST_UNDO) {
            oldest = (oldest + 1) % MOST_UNDO;
            undoable--;
        }
        past.putIn((oldest + undoable) % MOST_UNDO, now);
        undoable++;
        plan.forget();
    }

    private int toldEventCost(int event) {
        return now.costOfEvent(event, told, placeOf(event, 0), 0);
    }

    private int toldPassageCost(int event) {
        if (event == 0) {
            return 0;
        }
        int rest = now.rests.get(event - 1);
        return now.costOfPassage(event - 1, rest, told, placeOf(event - 1, 0), placeOf(event, 0));
    }

    private void write(int letter) {
        written.put(writtenLength, letter);
        writtenLength++;
    }

    private static boolean isWithin(int number, int least, int greatest) {
        return number >= least && number <= greatest;
    }

    private static boolean areKeys(int a, int b, int c) {
        if (!isWithin(a, LEAST_KEY, GREATEST_KEY)) {
            return false;
        }
        if (b == 0) {
            return c == 0;
        }
        return isWithin(b, a + 1, GREATEST_KEY) && (c == 0 || isWithin(c, b + 1, GREATEST_KEY));
    }

    private static boolean isBlack(int key) {
        int tone = key % OCTAVE;
        return tone == 1 || tone == 3 || tone == 6 || tone == 8 || tone == 10;
    }

    private static int bitOf(int finger) {
        return finger >= 1 && finger <= FINGERS ? 1 << (finger - 1) : 0;
    }

    private static int placeOf(int event, int note) {
        return event * MOST_NOTES + note;
    }

    private static int pairOf(int one, int other) {
        return (one - 1) * FINGERS + other - 1;
    }

    private static int sumOf(int cost, int more) {
        return cost == NONE || more == NONE ? NONE : cost + more;
    }

    private static int lesserOf(int cost, int other) {
        if (cost == NONE || other == NONE) {
            return cost == NONE ? other : cost;
        }
        return Math.min(cost, other);
    }

    private static int bytesIn(int four) {
        int bytes = 0;
        for (int shift = 24; shift >= 0; shift -= 8) {
            bytes += ((four >>> shift) & 255) != 0 ? 1 : 0;
        }
        return bytes;
    }

    // Looks at every index before it is used, so that no call can make the machine throw.
    private static final class Row {
        private final int[] cells;

        Row(int length) {
            cells = new int[Math.max(0, length)];
        }

        int get(int index) {
            return index >= 0 && index < cells.length ? cells[index] : 0;
        }

        void put(int index, int value) {
            if (index >= 0 && index < cells.length) {
                cells[index] = value;
            }
        }

        void copyFrom(Row other) {
            System.arraycopy(other.cells, 0, cells, 0, Math.min(cells.length, other.cells.length));
        }
    }

    // Pieces that are kept; a place holds nothing before something is put there.
    private static final class Shelf {
        private final Piece[] pieces;

        Shelf(int places) {
            pieces = new Piece[Math.max(0, places)];
        }

        boolean holds(int place) {
            return place >= 0 && place < pieces.length && pieces[place] != null;
        }

        void putIn(int place, Piece piece) {
            if (place < 0 || place >= pieces.length) {
                return;
            }
            Piece kept = pieces[place];
            if (kept == null) {
                kept = new Piece();
                pieces[place] = kept;
            }
            kept.copyFrom(piece);
        }

        void takeOut(int place, Piece into) {
            Piece kept = place >= 0 && place < pieces.length ? pieces[place] : null;
            if (kept != null) {
                into.copyFrom(kept);
            }
        }
    }

    // Everything that undo brings back, and what it costs to play it.
    private static final class Piece {
        private boolean right;
        private int events;
        private final Row sizes = new Row(MOST_EVENTS);
        private final Row rests = new Row(MOST_EVENTS);
        private final Row keys = new Row(MOST_EVENTS * MOST_NOTES);
        private final Row sets = new Row(MOST_EVENTS * MOST_NOTES);
        private final Row weights = new Row(WEIGHTS);
        private final Row lows = new Row(FINGERS * FINGERS);
        private final Row highs = new Row(FINGERS * FINGERS);
        private final Row limits = new Row(FINGERS * FINGERS);

        Piece() {
            begin();
        }

        void begin() {
            right = true;
            events = 0;
            for (int weight = 0; weight < FIRST_WEIGHTS.length; weight++) {
                weights.put(weight, FIRST_WEIGHTS[weight]);
            }
            for (int at = 0; at + SPAN_NUMBERS <= FIRST_SPANS.length; at += SPAN_NUMBERS) {
                putSpan(FIRST_SPANS[at], FIRST_SPANS[at + 1], FIRST_SPANS[at + 2], FIRST_SPANS[at + 3],
                        FIRST_SPANS[at + 4]);
            }
        }

        void copyFrom(Piece other) {
            right = other.right;
            events = other.events;
            sizes.copyFrom(other.sizes);
            rests.copyFrom(other.rests);
            keys.copyFrom(other.keys);
            sets.copyFrom(other.sets);
            weights.copyFrom(other.weights);
            lows.copyFrom(other.lows);
            highs.copyFrom(other.highs);
            limits.copyFrom(other.limits);
        }

        void putSpan(int one, int other, int low, int high, int limit) {
            lows.put(pairOf(one, other), low);
            lows.put(pairOf(other, one), low);
            highs.put(pairOf(one, other), high);
            highs.put(pairOf(other, one), high);
            limits.put(pairOf(one, other), limit);
            limits.put(pairOf(other, one), limit);
        }

        void openPlace(int event) {
            for (int at = events; at > event; at--) {
                moveEvent(at - 1, at);
            }
            sizes.put(event, 0);
            rests.put(event, 0);
            events++;
        }

        void closePlace(int event) {
            events--;
            for (int at = event; at < events; at++) {
                moveEvent(at + 1, at);
            }
        }

        void moveEvent(int from, int to) {
            sizes.put(to, sizes.get(from));
            rests.put(to, rests.get(from));
            for (int note = 0; note < MOST_NOTES; note++) {
                keys.put(placeOf(to, note), keys.get(placeOf(from, note)));
                sets.put(placeOf(to, note), sets.get(placeOf(from, note)));
            }
        }

        void putNote(int event, int note, int key) {
            keys.put(placeOf(event, note), key);
            sets.put(placeOf(event, note), ALL_FINGERS);
            sizes.put(event, note + 1);
        }

        boolean canShift(int by) {
            return events == 0 || leastKey() + by >= LEAST_KEY && greatestKey() + by <= GREATEST_KEY;
        }

        void shift(int by) {
            for (int event = 0; event < events; event++) {
                for (int note = 0; note < sizes.get(event); note++) {
                    keys.put(placeOf(event, note), keyOf(event, note) + by);
                }
            }
        }

        int keyOf(int event, int note) {
            return keys.get(placeOf(event, note));
        }

        int allNotes() {
            int notes = 0;
            for (int event = 0; event < events; event++) {
                notes += sizes.get(event);
            }
            return notes;
        }

        int leastKey() {
            int least = NONE;
            for (int event = 0; event < events; event++) {
                least = lesserOf(least, keyOf(event, 0));
            }
            return least;
        }

        int greatestKey() {
            int greatest = NONE;
            for (int event = 0; event < events; event++) {
                greatest = Math.max(greatest, keyOf(event, sizes.get(event) - 1));
            }
            return greatest;
        }

        int blackNotes() {
            int notes = 0;
            for (int event = 0; event < events; event++) {
                for (int note = 0; note < sizes.get(event); note++) {
                    notes += isBlack(keyOf(event, note)) ? 1 : 0;
                }
            }
            return notes;
        }

        int freePassages() {
            int passages = 0;
            for (int event = 0; event < events - 1; event++) {
                passages += isFree(rests.get(event)) ? 1 : 0;
            }
            return passages;
        }

        boolean isFree(int rest) {
            return rest >= weights.get(FREE);
        }

        boolean mayPlay(int event, int note, int finger) {
            return (sets.get(placeOf(event, note)) & bitOf(finger)) != 0;
        }

        boolean inOrder(int finger, int nextFinger) {
            return right ? finger < nextFinger : finger > nextFinger;
        }

        // The fingers of the event stand in the row from the base on; all keys are taken greater by so much.
        int costOfEvent(int event, Row fingers, int base, int by) {
            int cost = 0;
            for (int note = 0; note < sizes.get(event); note++) {
                int finger = fingers.get(base + note);
                if (!mayPlay(event, note, finger)) {
                    return NONE;
                }
                cost += costOfNote(keyOf(event, note) + by, finger);
                if (note == 0) {
                    continue;
                }
                int fingerAhead = fingers.get(base + note - 1);
                int stretch = costOfStretch(keyOf(event, note) - keyOf(event, note - 1), fingerAhead, finger);
                if (!inOrder(fingerAhead, finger) || stretch == NONE) {
                    return NONE;
                }
                cost += stretch;
            }
            return cost;
        }

        int costOfNote(int key, int finger) {
            int cost = finger == 4 ? weights.get(WEAK) : 0;
            if ((finger == 1 || finger == FINGERS) && isBlack(key)) {
                cost += weights.get(BLACK);
            }
            return cost;
        }

        int costOfStretch(int distance, int one, int other) {
            int pair = pairOf(one, other);
            if (distance > limits.get(pair)) {
                return NONE;
            }
            int below = lows.get(pair) - distance;
            int above = distance - highs.get(pair);
            return weights.get(STRETCH) * Math.max(0, Math.max(below, above));
        }

        // The passage from the event to the next one, their fingers standing from the two bases on.
        int costOfPassage(int event, int rest, Row fingers, int base, int nextBase) {
            if (isFree(rest)) {
                return 0;
            }
            int sum = 0;
            for (int end = 0; end < endsOf(event); end++) {
                int note = noteAtEnd(event, end);
                int next = noteAtEnd(event + 1, end);
                int cost = costOfLink(fingers.get(base + note), keyOf(event, note),
                        fingers.get(nextBase + next), keyOf(event + 1, next));
                if (cost == NONE) {
                    return NONE;
                }
                sum += cost;
            }
            return Math.max(0, sum - weights.get(EASE) * rest);
        }

        int crossings(int event, Row fingers, int base, int nextBase) {
            if (isFree(rests.get(event))) {
                return 0;
            }
            int crossings = 0;
            for (int end = 0; end < endsOf(event); end++) {
                int note = noteAtEnd(event, end);
                int next = noteAtEnd(event + 1, end);
                int kind = kindOfLink(fingers.get(base + note), keyOf(event, note),
                        fingers.get(nextBase + next), keyOf(event + 1, next));
                crossings += kind == LINK_CROSSES ? 1 : 0;
            }
            return crossings;
        }

        int endsOf(int event) {
            return sizes.get(event) > 1 || sizes.get(event + 1) > 1 ? 2 : 1;
        }

        // End 0 is the note of the least finger, end 1 that of the greatest: with the left hand keys fall.
        int noteAtEnd(int event, int end) {
            return (end == 0) == right ? 0 : sizes.get(event) - 1;
        }

        int costOfLink(int finger, int key, int next, int nextKey) {
            int distance = Math.abs(nextKey - key);
            switch (kindOfLink(finger, key, next, nextKey)) {
                case LINK_KEEPS_KEY:
                    return weights.get(finger == next ? REPEAT : CHANGE);
                case LINK_JUMPS:
                    return weights.get(JUMP) * distance;
                case LINK_STRETCHES:
                    return costOfStretch(distance, finger, next);
                case LINK_CROSSES:
                    return weights.get(CROSS);
                default:
                    return NONE;
            }
        }

        int kindOfLink(int finger, int key, int next, int nextKey) {
            if (key == nextKey) {
                return LINK_KEEPS_KEY;
            }
            if (finger == next) {
                return LINK_JUMPS;
            }
            int way = right ? nextKey - key : key - nextKey;
            if ((way > 0) == (next > finger)) {
                return LINK_STRETCHES;
            }
            boolean nearThumb = Math.min(finger, next) == 1 && Math.max(finger, next) < FINGERS;
            return nearThumb && Math.abs(way) <= weights.get(REACH) ? LINK_CROSSES : LINK_BARRED;
        }
    }

    // The allowed choices of fingers of each event, and the least costs of the ways through them.
    private static final class Plan {
        private boolean solved = false;
        private int events = 0;
        private int least = 0;
        private final Row choices = new Row(MOST_EVENTS);
        private final Row fingers = new Row(MOST_EVENTS * MOST_CHOICES * MOST_NOTES);
        private final Row own = new Row(MOST_EVENTS * MOST_CHOICES);
        private final Row steps = new Row(MOST_EVENTS * MOST_CHOICES * MOST_CHOICES);
        private final Row ahead = new Row(MOST_EVENTS * MOST_CHOICES);
        private final Row behind = new Row(MOST_EVENTS * MOST_CHOICES);
        private final Row first = new Row(MOST_EVENTS);
        private final Row shiftedAhead = new Row(MOST_EVENTS * MOST_CHOICES);
        private final Row shiftedLeast = new Row(OCTAVE);
        private final long[] ways = new long[MOST_EVENTS * MOST_CHOICES];

        void forget() {
            solved = false;
        }

        void solve(Piece piece) {
            if (solved) {
                return;
            }
            solved = true;
            events = piece.events;
            for (int event = 0; event < events; event++) {
                listChoices(piece, event);
            }
            for (int event = 0; event < events - 1; event++) {
                fillSteps(piece, event);
            }
            fillAhead(piece, 0, ahead);
            fillBehind();
            least = leastAtEnd(ahead);
            findFirst();
            for (int shift = 1; shift < OCTAVE; shift++) {
                shiftedLeast.put(shift, NONE);
            }
            shiftedLeast.put(0, least);
        }

        static int placeOfChoice(int event, int choice) {
            return event * MOST_CHOICES + choice;
        }

        static int baseOf(int event, int choice) {
            return placeOfChoice(event, choice) * MOST_NOTES;
        }

        static int placeOfStep(int event, int choice, int next) {
            return placeOfChoice(event, choice) * MOST_CHOICES + next;
        }

        // Choices come in the order in which fingerings are compared.
        void listChoices(Piece piece, int event) {
            choices.put(event, 0);
            int notes = piece.sizes.get(event);
            for (int one = 1; one <= FINGERS; one++) {
                if (notes == 1) {
                    tryChoice(piece, event, one, 0, 0);
                }
                for (int two = 1; notes > 1 && two <= FINGERS; two++) {
                    if (!piece.inOrder(one, two)) {
                        continue;
                    }
                    if (notes == 2) {
                        tryChoice(piece, event, one, two, 0);
                    }
                    for (int three = 1; notes > 2 && three <= FINGERS; three++) {
                        if (piece.inOrder(two, three)) {
                            tryChoice(piece, event, one, two, three);
                        }
                    }
                }
            }
        }

        void tryChoice(Piece piece, int event, int one, int two, int three) {
            int choice = choices.get(event);
            if (choice >= MOST_CHOICES) {
                return;
            }
            int base = baseOf(event, choice);
            fingers.put(base, one);
            fingers.put(base + 1, two);
            fingers.put(base + 2, three);
            int cost = piece.costOfEvent(event, fingers, base, 0);
            if (cost != NONE) {
                own.put(placeOfChoice(event, choice), cost);
                choices.put(event, choice + 1);
            }
        }

        void fillSteps(Piece piece, int event) {
            int rest = piece.rests.get(event);
            for (int choice = 0; choice < choices.get(event); choice++) {
                for (int next = 0; next < choices.get(event + 1); next++) {
                    steps.put(placeOfStep(event, choice, next), piece.costOfPassage(event, rest, fingers,
                            baseOf(event, choice), baseOf(event + 1, next)));
                }
            }
        }

        // The least costs up to each choice, its own one among them.
        void fillAhead(Piece piece, int by, Row costs) {
            for (int event = 0; event < events; event++) {
                for (int choice = 0; choice < choices.get(event); choice++) {
                    int cost = piece.costOfEvent(event, fingers, baseOf(event, choice), by);
                    int into = event == 0 ? 0 : leastInto(event, choice, costs);
                    costs.put(placeOfChoice(event, choice), sumOf(into, cost));
                }
            }
        }

        int leastInto(int event, int choice, Row costs) {
            int cost = NONE;
            for (int from = 0; from < choices.get(event - 1); from++) {
                int step = steps.get(placeOfStep(event - 1, from, choice));
                cost = lesserOf(cost, sumOf(costs.get(placeOfChoice(event - 1, from)), step));
            }
            return cost;
        }

        // The least costs of all that comes behind each choice.
        void fillBehind() {
            for (int event = events - 1; event >= 0; event--) {
                for (int choice = 0; choice < choices.get(event); choice++) {
                    int cost = event == events - 1 ? 0 : leastOutOf(event, choice);
                    behind.put(placeOfChoice(event, choice), cost);
                }
            }
        }

        int leastOutOf(int event, int choice) {
            int cost = NONE;
            for (int next = 0; next < choices.get(event + 1); next++) {
                cost = lesserOf(cost, costOnward(event, choice, next));
            }
            return cost;
        }

        int costOnward(int event, int choice, int next) {
            return sumOf(steps.get(placeOfStep(event, choice, next)), costFrom(event + 1, next));
        }

        int costFrom(int event, int choice) {
            int place = placeOfChoice(event, choice);
            return sumOf(own.get(place), behind.get(place));
        }

        int costThrough(int event, int choice) {
            int place = placeOfChoice(event, choice);
            return sumOf(ahead.get(place), behind.get(place));
        }

        int leastAtEnd(Row costs) {
            int cost = events == 0 ? 0 : NONE;
            for (int choice = 0; choice < choices.get(events - 1); choice++) {
                cost = lesserOf(cost, costs.get(placeOfChoice(events - 1, choice)));
            }
            return cost;
        }

        void findFirst() {
            if (least == NONE) {
                return;
            }
            int left = least;
            for (int event = 0; event < events; event++) {
                int choice = firstChoice(event, left);
                first.put(event, choice);
                left = behind.get(placeOfChoice(event, choice));
            }
        }

        int firstChoice(int event, int left) {
            for (int choice = 0; choice < choices.get(event); choice++) {
                int cost = event == 0 ? costFrom(event, choice) : costOnward(event - 1, first.get(event - 1), choice);
                if (cost == left) {
                    return choice;
                }
            }
            return 0;
        }

        int firstFinger(int event, int note) {
            return fingers.get(baseOf(event, first.get(event)) + note);
        }

        int firstEventCost(int event) {
            return own.get(placeOfChoice(event, first.get(event)));
        }

        int firstPassageCost(int event) {
            return steps.get(placeOfStep(event, first.get(event), first.get(event + 1)));
        }

        int firstCrossings(Piece piece, int event) {
            return piece.crossings(event, fingers, baseOf(event, first.get(event)),
                    baseOf(event + 1, first.get(event + 1)));
        }

        long countWays(boolean cheapest) {
            if (events == 0) {
                return 1;
            }
            for (int event = 0; event < events; event++) {
                for (int choice = 0; choice < choices.get(event); choice++) {
                    putWays(placeOfChoice(event, choice), event == 0 ? 1 : waysInto(event, choice, cheapest));
                }
            }
            long sum = 0;
            for (int choice = 0; choice < choices.get(events - 1); choice++) {
                int place = placeOfChoice(events - 1, choice);
                if (!cheapest || ahead.get(place) == least) {
                    sum += waysAt(place);
                }
            }
            return Math.min(sum, MOST_WAYS);
        }

        long waysInto(int event, int choice, boolean cheapest) {
            int place = placeOfChoice(event, choice);
            long sum = 0;
            for (int from = 0; from < choices.get(event - 1); from++) {
                int before = placeOfChoice(event - 1, from);
                int step = steps.get(placeOfStep(event - 1, from, choice));
                int cost = sumOf(sumOf(ahead.get(before), step), own.get(place));
                if (cost != NONE && (!cheapest || cost == ahead.get(place))) {
                    sum += waysAt(before);
                }
            }
            return Math.min(sum, MOST_WAYS);
        }

        long waysAt(int place) {
            return place >= 0 && place < ways.length ? ways[place] : 0;
        }

        void putWays(int place, long number) {
            if (place >= 0 && place < ways.length) {
                ways[place] = number;
            }
        }

        int leastWith(int event, int note, int finger) {
            int cost = NONE;
            for (int choice = 0; choice < choices.get(event); choice++) {
                if (fingers.get(baseOf(event, choice) + note) == finger) {
                    cost = lesserOf(cost, costThrough(event, choice));
                }
            }
            return cost;
        }

        int eventsReached() {
            for (int event = 0; event < events; event++) {
                if (!isReached(event)) {
                    return event;
                }
            }
            return events;
        }

        boolean isReached(int event) {
            for (int choice = 0; choice < choices.get(event); choice++) {
                if (ahead.get(placeOfChoice(event, choice)) != NONE) {
                    return true;
                }
            }
            return false;
        }

        int cheapestFingers(int event, int note) {
            int set = 0;
            for (int choice = 0; choice < choices.get(event); choice++) {
                if (costThrough(event, choice) == least) {
                    set |= bitOf(fingers.get(baseOf(event, choice) + note));
                }
            }
            return set;
        }

        // Keys an octave apart are of one colour, and nothing else depends on where the keys are.
        int leastShifted(Piece piece, int by) {
            int shift = Math.floorMod(by, OCTAVE);
            if (least != NONE && shiftedLeast.get(shift) == NONE) {
                fillAhead(piece, shift, shiftedAhead);
                shiftedLeast.put(shift, leastAtEnd(shiftedAhead));
            }
            return shiftedLeast.get(shift);
        }

        int leastWithRest(Piece piece, int event) {
            int cost = NONE;
            for (int choice = 0; choice < choices.get(event); choice++) {
                int before = ahead.get(placeOfChoice(event, choice));
                for (int next = 0; before != NONE && next < choices.get(event + 1); next++) {
                    int step = piece.costOfPassage(event, MOST_REST, fingers, baseOf(event, choice),
                            baseOf(event + 1, next));
                    cost = lesserOf(cost, sumOf(before, sumOf(step, costFrom(event + 1, next))));
                }
            }
            return cost;
        }
    }

    // The text buffer, and the reading of it token by token.
    private static final class Text {
        private final Row bytes = new Row(MOST_TEXT);
        private int length = 0;
        private int error = 0;
        private int errorAt = NONE;
        private int kind = END;
        private int start = 0;
        private int behind = 0;
        private int number = 0;
        private int taken = 0;

        void addBytes(int four) {
            for (int shift = 24; shift >= 0; shift -= 8) {
                int one = (four >>> shift) & 255;
                if (one != 0) {
                    bytes.put(length, one);
                    length++;
                }
            }
        }

        boolean readPiece(Piece piece) {
            beginReading();
            piece.begin();
            return readHand(piece) && readWeights(piece) && readSpans(piece) && readEvents(piece) && takeEnd();
        }

        boolean readFingering(Piece piece, Row told) {
            beginReading();
            for (int event = 0; event < piece.events; event++) {
                for (int note = 0; note < piece.sizes.get(event); note++) {
                    if (kind == END) {
                        return fail(MISFIT);
                    }
                    if (!takeNumber(1, FINGERS, 1)) {
                        return false;
                    }
                    told.put(placeOf(event, note), taken);
                }
            }
            return kind == NUMBER ? fail(TOO_MANY) : takeEnd();
        }

        boolean readHand(Piece piece) {
            if (!takeWord("hand")) {
                return false;
            }
            piece.right = isWord("right");
            return takeWord(piece.right ? "right" : "left") && takeSemicolon();
        }

        boolean readWeights(Piece piece) {
            for (int told = 0; told < MOST_TEXT && isWord("weight"); told++) {
                scan();
                int weight = weightNamed();
                if (weight == NONE) {
                    return fail(SYNTAX_ERROR);
                }
                scan();
                if (!takeNumber(0, MOST_WEIGHT, 0)) {
                    return false;
                }
                piece.weights.put(weight, taken);
                if (!takeSemicolon()) {
                    return false;
                }
            }
            return true;
        }

        int weightNamed() {
            if (isWord("stretch")) {
                return STRETCH;
            }
            if (isWord("cross")) {
                return CROSS;
            }
            if (isWord("repeat")) {
                return REPEAT;
            }
            if (isWord("change")) {
                return CHANGE;
            }
            if (isWord("jump")) {
                return JUMP;
            }
            if (isWord("black")) {
                return BLACK;
            }
            if (isWord("weak")) {
                return WEAK;
            }
            if (isWord("ease")) {
                return EASE;
            }
            if (isWord("free")) {
                return FREE;
            }
            return isWord("reach") ? REACH : NONE;
        }

        boolean readSpans(Piece piece) {
            for (int told = 0; told < MOST_TEXT && isWord("span"); told++) {
                scan();
                if (!readSpan(piece) || !takeSemicolon()) {
                    return false;
                }
            }
            return true;
        }

        boolean readSpan(Piece piece) {
            if (!takeNumber(1, FINGERS, 1)) {
                return false;
            }
            int one = taken;
            if (!takeNumber(1, FINGERS, one + 1)) {
                return false;
            }
            int other = taken;
            if (!takeNumber(1, MOST_SPAN, 1)) {
                return false;
            }
            int low = taken;
            if (!takeNumber(1, MOST_SPAN, low)) {
                return false;
            }
            int high = taken;
            if (!takeNumber(1, MOST_SPAN, high)) {
                return false;
            }
            piece.putSpan(one, other, low, high, taken);
            return true;
        }

        boolean readEvents(Piece piece) {
            for (int told = 0; told <= MOST_EVENTS && isWord("play"); told++) {
                if (piece.events >= MOST_EVENTS) {
                    return fail(TOO_MANY);
                }
                scan();
                piece.openPlace(piece.events);
                int event = piece.events - 1;
                if (!readKeys(piece, event) || !readRest(piece, event) || !readFingers(piece, event)
                        || !takeSemicolon()) {
                    return false;
                }
            }
            return true;
        }

        boolean readKeys(Piece piece, int event) {
            int keyAhead = LEAST_KEY - 1;
            for (int note = 0; note == 0 || kind == NUMBER; note++) {
                if (note >= MOST_NOTES) {
                    return fail(TOO_MANY);
                }
                if (!takeNumber(LEAST_KEY, GREATEST_KEY, keyAhead + 1)) {
                    return false;
                }
                piece.putNote(event, note, taken);
                keyAhead = taken;
            }
            return true;
        }

        boolean readRest(Piece piece, int event) {
            if (!isWord("rest")) {
                return true;
            }
            scan();
            if (!takeNumber(0, MOST_REST, 0)) {
                return false;
            }
            piece.rests.put(event, taken);
            return true;
        }

        boolean readFingers(Piece piece, int event) {
            if (!isWord("by")) {
                return true;
            }
            scan();
            for (int note = 0; note < piece.sizes.get(event); note++) {
                if (!takeNumber(0, FINGERS, 0)) {
                    return false;
                }
                piece.sets.put(placeOf(event, note), taken == 0 ? ALL_FINGERS : bitOf(taken));
            }
            return kind != NUMBER || fail(TOO_MANY);
        }

        void beginReading() {
            errorAt = NONE;
            behind = 0;
            scan();
        }

        boolean fail(int code) {
            error = code;
            errorAt = start;
            return false;
        }

        boolean takeWord(String word) {
            if (!isWord(word)) {
                return fail(SYNTAX_ERROR);
            }
            scan();
            return true;
        }

        boolean takeSemicolon() {
            if (kind != SEMICOLON) {
                return fail(SYNTAX_ERROR);
            }
            scan();
            return true;
        }

        boolean takeEnd() {
            return kind == END || fail(SYNTAX_ERROR);
        }

        boolean takeNumber(int least, int greatest, int fitting) {
            if (kind != NUMBER) {
                return fail(SYNTAX_ERROR);
            }
            if (!isWithin(number, least, greatest)) {
                return fail(VALUE_ERROR);
            }
            if (number < fitting) {
                return fail(MISFIT);
            }
            taken = number;
            scan();
            return true;
        }

        boolean isWord(String word) {
            if (kind != WORD || behind - start != word.length()) {
                return false;
            }
            for (int at = 0; at < word.length(); at++) {
                if (bytes.get(start + at) != word.charAt(at)) {
                    return false;
                }
            }
            return true;
        }

        void scan() {
            start = behind;
            while (start < length && bytes.get(start) == ' ') {
                start++;
            }
            behind = start;
            if (start >= length) {
                kind = END;
            } else if (isLetter(start)) {
                kind = WORD;
                while (behind < length && isLetter(behind)) {
                    behind++;
                }
            } else if (isDigit(start)) {
                kind = NUMBER;
                number = 0;
                while (behind < length && isDigit(behind)) {
                    number = Math.min(HUGE, number * 10 + bytes.get(behind) - '0');
                    behind++;
                }
            } else {
                kind = bytes.get(start) == ';' ? SEMICOLON : STRANGE;
                behind = start + 1;
            }
        }

        boolean isLetter(int at) {
            return isWithin(bytes.get(at), 'a', 'z');
        }

        boolean isDigit(int at) {
            return isWithin(bytes.get(at), '0', '9');
        }
    }
}
