import java.math.BigInteger;
import java.util.ArrayList;
import java.util.Arrays;
import java.util.LinkedHashMap;
import java.util.List;
import java.util.Map;
import java.util.NoSuchElementException;
import java.util.TreeMap;
import java.util.regex.Matcher;
import java.util.regex.Pattern;

/**
 * A second HandFingers, written from the document alone and as slow as that makes it: whatever the
 * document asks of the costs is answered by changing a copy of the piece and solving it anew.
 */
final class SlowHand {
    static final List<String> NAMES = Arrays.asList("stretch", "cross", "repeat", "change", "jump", "black", "weak",
            "ease", "free", "reach");
    private static final BigInteger CAP = BigInteger.valueOf(1000000000000000L);

    /** One event: its keys in ascending order, for each the fingers that may play it, and the rest. */
    static final class Event {
        final List<Integer> keys = new ArrayList<>();
        final List<List<Integer>> may = new ArrayList<>();
        int rest;

        Event copy() {
            Event e = new Event();
            e.keys.addAll(keys);
            for (List<Integer> fingers : may) {
                e.may.add(new ArrayList<>(fingers));
            }
            e.rest = rest;
            return e;
        }

        void addKey(int key) {
            keys.add(key);
            may.add(new ArrayList<>(Arrays.asList(1, 2, 3, 4, 5)));
        }
    }

    static final class State {
        boolean right = true;
        final List<Event> events = new ArrayList<>();
        final Map<String, Integer> weights = new LinkedHashMap<>();
        final Map<String, int[]> spans = new TreeMap<>();

        State() {
            int[] first = {2, 5, 3, 1, 2, 4, 1, 2, 4, 5};
            for (int i = 0; i < 10; i++) {
                weights.put(NAMES.get(i), first[i]);
            }
            String told = "1 and 2: 1, 5, 8; 1 and 3: 3, 7, 10; 1 and 4: 5, 9, 12; 1 and 5: 7, 11, 14; 2 and 3: 1, 2, 5; "
                    + "2 and 4: 3, 4, 7; 2 and 5: 5, 7, 10; 3 and 4: 1, 2, 4; 3 and 5: 3, 4, 7; 4 and 5: 1, 2, 5";
            for (String one : told.split("; ")) {
                String[] p = one.split("\\D+");
                spans.put(p[0] + p[1], new int[] {Integer.parseInt(p[2]), Integer.parseInt(p[3]), Integer.parseInt(p[4])});
            }
        }

        State copy() {
            State s = new State();
            s.right = right;
            for (Event e : events) {
                s.events.add(e.copy());
            }
            s.weights.putAll(weights);
            for (Map.Entry<String, int[]> e : spans.entrySet()) {
                s.spans.put(e.getKey(), e.getValue().clone());
            }
            return s;
        }

        int w(String name) {
            return weights.get(name);
        }

        int[] span(int a, int b) {
            return spans.get("" + Math.min(a, b) + Math.max(a, b));
        }

        int notes() {
            int n = 0;
            for (Event e : events) {
                n += e.keys.size();
            }
            return n;
        }

        boolean free(int event) {
            return events.get(event).rest >= w("free");
        }

        int way(int from, int to) {
            return right ? to - from : from - to;
        }

        int off(int distance, int a, int b) {
            int[] s = span(a, b);
            return distance < s[0] ? s[0] - distance : distance > s[1] ? distance - s[1] : 0;
        }

        boolean fits(int distance, int a, int b) {
            return distance <= span(a, b)[2];
        }

        boolean eventAllowed(int event, int[] f) {
            Event e = events.get(event);
            for (int i = 0; i < f.length; i++) {
                if (!e.may.get(i).contains(f[i])) {
                    return false;
                }
                for (int j = 0; j < f.length; j++) {
                    if (i != j && f[i] == f[j]) {
                        return false;
                    }
                    if (f[i] > f[j] && way(e.keys.get(j), e.keys.get(i)) <= 0) {
                        return false;
                    }
                }
                if (i > 0 && !fits(e.keys.get(i) - e.keys.get(i - 1), f[i], f[i - 1])) {
                    return false;
                }
            }
            return true;
        }

        int eventCost(int event, int[] f) {
            Event e = events.get(event);
            int cost = 0;
            for (int i = 0; i < f.length; i++) {
                if ((f[i] == 1 || f[i] == 5) && black(e.keys.get(i))) {
                    cost += w("black");
                }
                if (f[i] == 4) {
                    cost += w("weak");
                }
                if (i > 0) {
                    cost += w("stretch") * off(e.keys.get(i) - e.keys.get(i - 1), f[i], f[i - 1]);
                }
            }
            return cost;
        }

        /** The letter of the rule that applies, and the cost of it. */
        int[] link(int f, int key, int g, int nextKey) {
            int distance = Math.abs(key - nextKey);
            if (key == nextKey) {
                return new int[] {'a', f == g ? w("repeat") : w("change")};
            }
            if (f == g) {
                return new int[] {'b', w("jump") * distance};
            }
            int way = way(key, nextKey);
            if (way > 0 && g > f || way < 0 && g < f) {
                return new int[] {'c', fits(distance, f, g) ? w("stretch") * off(distance, f, g) : -1};
            }
            boolean thumb = f == 1 && Arrays.asList(2, 3, 4).contains(g) || g == 1 && Arrays.asList(2, 3, 4).contains(f);
            if (thumb && distance <= w("reach")) {
                return new int[] {'d', w("cross")};
            }
            return new int[] {'e', -1};
        }

        List<int[]> links(int event, int[] f, int[] g) {
            List<int[]> links = new ArrayList<>();
            Event e = events.get(event);
            Event n = events.get(event + 1);
            int a = indexOfLeast(f);
            int b = indexOfLeast(g);
            links.add(link(f[a], e.keys.get(a), g[b], n.keys.get(b)));
            if (f.length > 1 || g.length > 1) {
                a = indexOfGreatest(f);
                b = indexOfGreatest(g);
                links.add(link(f[a], e.keys.get(a), g[b], n.keys.get(b)));
            }
            return links;
        }

        int passageCost(int event, int[] f, int[] g) {
            if (free(event)) {
                return 0;
            }
            int sum = 0;
            for (int[] link : links(event, f, g)) {
                if (link[1] < 0) {
                    return -1;
                }
                sum += link[1];
            }
            return Math.max(0, sum - w("ease") * events.get(event).rest);
        }

        int costOf(List<int[]> fingering) {
            int sum = 0;
            for (int i = 0; i < events.size(); i++) {
                if (!eventAllowed(i, fingering.get(i))) {
                    return -1;
                }
                sum += eventCost(i, fingering.get(i));
                if (i > 0) {
                    int p = passageCost(i - 1, fingering.get(i - 1), fingering.get(i));
                    if (p < 0) {
                        return -1;
                    }
                    sum += p;
                }
            }
            return sum;
        }

        List<int[]> ways(int event) {
            List<int[]> all = new ArrayList<>();
            all.add(new int[0]);
            for (int n = 0; n < events.get(event).keys.size(); n++) {
                List<int[]> longer = new ArrayList<>();
                for (int[] f : all) {
                    for (int finger = 1; finger <= 5; finger++) {
                        int[] g = Arrays.copyOf(f, f.length + 1);
                        g[f.length] = finger;
                        longer.add(g);
                    }
                }
                all = longer;
            }
            List<int[]> allowed = new ArrayList<>();
            for (int[] f : all) {
                if (eventAllowed(event, f)) {
                    allowed.add(f);
                }
            }
            return allowed;
        }

        State transposed(int by) {
            State s = copy();
            for (Event e : s.events) {
                for (int i = 0; i < e.keys.size(); i++) {
                    e.keys.set(i, e.keys.get(i) + by);
                }
            }
            return s;
        }

        boolean inRange() {
            for (Event e : events) {
                for (int key : e.keys) {
                    if (key < 21 || key > 108) {
                        return false;
                    }
                }
            }
            return true;
        }

        Solution solve() {
            Solution s = byCosts();
            long small = 1;
            for (int i = 0; i < events.size() && small < 3000; i++) {
                small *= ways(i).size();
            }
            if (small < 3000) {
                Solution t = new Solution();
                everyFingering(new ArrayList<>(), t);
                if (s.best != t.best || !s.cheapest.equals(t.cheapest) || !s.all.equals(t.all)) {
                    throw new AssertionError("the slow hand disagrees with itself");
                }
            }
            return s;
        }

        private void everyFingering(List<int[]> soFar, Solution into) {
            if (soFar.size() == events.size()) {
                int cost = costOf(soFar);
                if (cost >= 0) {
                    into.add(cost, BigInteger.ONE, BigInteger.ONE);
                }
                return;
            }
            for (int[] f : ways(soFar.size())) {
                soFar.add(f);
                everyFingering(soFar, into);
                soFar.remove(soFar.size() - 1);
            }
        }

        private Solution byCosts() {
            List<int[]> before = new ArrayList<>();
            List<Solution> costs = new ArrayList<>();
            Solution none = new Solution();
            none.add(0, BigInteger.ONE, BigInteger.ONE);
            for (int i = 0; i < events.size(); i++) {
                List<int[]> ways = ways(i);
                List<Solution> next = new ArrayList<>();
                for (int[] g : ways) {
                    Solution s = new Solution();
                    if (i == 0) {
                        s.addAll(none, eventCost(i, g));
                    }
                    for (int b = 0; b < before.size(); b++) {
                        int p = passageCost(i - 1, before.get(b), g);
                        if (p >= 0) {
                            s.addAll(costs.get(b), p + eventCost(i, g));
                        }
                    }
                    next.add(s);
                }
                before = ways;
                costs = next;
            }
            if (events.isEmpty()) {
                return none;
            }
            Solution whole = new Solution();
            for (Solution s : costs) {
                whole.addAll(s, 0);
            }
            return whole;
        }

        /** The first cheapest fingering: each note in turn gets the least finger that keeps the best cost. */
        List<int[]> first() {
            State s = copy();
            int best = s.solve().best;
            List<int[]> fingering = new ArrayList<>();
            for (Event e : s.events) {
                int[] f = new int[e.keys.size()];
                for (int n = 0; n < f.length; n++) {
                    for (int finger : new ArrayList<>(e.may.get(n))) {
                        e.may.set(n, new ArrayList<>(Arrays.asList(finger)));
                        f[n] = finger;
                        if (s.byCosts().best == best) {
                            break;
                        }
                    }
                }
                fingering.add(f);
            }
            return fingering;
        }
    }

    /** The best cost (-1: none) and how many fingerings there are. */
    static final class Solution {
        int best = -1;
        BigInteger cheapest = BigInteger.ZERO;
        BigInteger all = BigInteger.ZERO;

        void add(int cost, BigInteger howMany, BigInteger inAll) {
            if (best == -1 || cost < best) {
                best = cost;
                cheapest = BigInteger.ZERO;
            }
            if (cost == best) {
                cheapest = cheapest.add(howMany);
            }
            all = all.add(inAll);
        }

        void addAll(Solution other, int cost) {
            if (other.best >= 0) {
                add(other.best + cost, other.cheapest, other.all);
            }
        }
    }

    static final class Fault extends RuntimeException {
        private static final long serialVersionUID = 1L;
        final int code;
        final int at;

        Fault(int code, int at) {
            this.code = code;
            this.at = at;
        }
    }

    /** The tokens of a text, each with the place of its first byte; the last one is the end. */
    static final class Tokens {
        final List<String> words = new ArrayList<>();
        final List<Integer> places = new ArrayList<>();
        int next = 0;

        Tokens(String text) {
            Matcher m = Pattern.compile("[a-z]+|[0-9]+|[^ ]", Pattern.DOTALL).matcher(text);
            while (m.find()) {
                words.add(m.group());
                places.add(m.start());
            }
            words.add("");
            places.add(text.length());
        }

        String see() {
            return words.get(next);
        }

        int at() {
            return places.get(next);
        }

        boolean seesNumber() {
            return see().matches("[0-9]+");
        }

        void want(String word) {
            if (!see().equals(word)) {
                throw new Fault(-2, at());
            }
            next++;
        }

        int number(int least, int greatest, int fitting) {
            if (!seesNumber()) {
                throw new Fault(-2, at());
            }
            BigInteger n = new BigInteger(see());
            if (n.compareTo(BigInteger.valueOf(least)) < 0 || n.compareTo(BigInteger.valueOf(greatest)) > 0) {
                throw new Fault(-3, at());
            }
            if (n.intValue() < fitting) {
                throw new Fault(-4, at());
            }
            next++;
            return n.intValue();
        }
    }

    static State readPiece(String text) {
        Tokens t = new Tokens(text);
        State s = new State();
        t.want("hand");
        s.right = !t.see().equals("left");
        t.want(s.right ? "right" : "left");
        t.want(";");
        while (t.see().equals("weight")) {
            t.next++;
            if (!NAMES.contains(t.see())) {
                throw new Fault(-2, t.at());
            }
            String name = t.see();
            t.next++;
            s.weights.put(name, t.number(0, 99, 0));
            t.want(";");
        }
        while (t.see().equals("span")) {
            t.next++;
            int one = t.number(1, 5, 1);
            int other = t.number(1, 5, one + 1);
            int low = t.number(1, 24, 1);
            int high = t.number(1, 24, low);
            int limit = t.number(1, 24, high);
            s.spans.put("" + one + other, new int[] {low, high, limit});
            t.want(";");
        }
        while (t.see().equals("play")) {
            if (s.events.size() == 40) {
                throw new Fault(-5, t.at());
            }
            t.next++;
            Event e = new Event();
            e.addKey(t.number(21, 108, 0));
            while (t.seesNumber()) {
                if (e.keys.size() == 3) {
                    throw new Fault(-5, t.at());
                }
                e.addKey(t.number(21, 108, e.keys.get(e.keys.size() - 1) + 1));
            }
            if (t.see().equals("rest")) {
                t.next++;
                e.rest = t.number(0, 9, 0);
            }
            if (t.see().equals("by")) {
                t.next++;
                for (int n = 0; n < e.keys.size(); n++) {
                    int finger = t.number(0, 5, 0);
                    if (finger > 0) {
                        e.may.set(n, new ArrayList<>(Arrays.asList(finger)));
                    }
                }
                if (t.seesNumber()) {
                    throw new Fault(-5, t.at());
                }
            }
            t.want(";");
            s.events.add(e);
        }
        t.want("");
        return s;
    }

    static List<int[]> readFingering(String text, State s) {
        Tokens t = new Tokens(text);
        List<int[]> fingering = new ArrayList<>();
        for (Event e : s.events) {
            int[] f = new int[e.keys.size()];
            for (int n = 0; n < f.length; n++) {
                if (t.see().isEmpty()) {
                    throw new Fault(-4, t.at());
                }
                f[n] = t.number(1, 5, 1);
            }
            fingering.add(f);
        }
        if (t.seesNumber()) {
            throw new Fault(-5, t.at());
        }
        t.want("");
        return fingering;
    }

    static boolean black(int key) {
        return Arrays.asList(1, 3, 6, 8, 10).contains(key % 12);
    }

    private static int indexOfLeast(int[] f) {
        int at = 0;
        for (int i = 0; i < f.length; i++) {
            if (f[i] < f[at]) {
                at = i;
            }
        }
        return at;
    }

    private static int indexOfGreatest(int[] f) {
        int at = 0;
        for (int i = 0; i < f.length; i++) {
            if (f[i] > f[at]) {
                at = i;
            }
        }
        return at;
    }

    // ---- the calls

    State now = new State();
    private final StringBuilder buffer = new StringBuilder();
    private int errorAt = -1;
    private final List<State> past = new ArrayList<>();
    private final State[] saved = new State[2];
    private String written = "";

    public int append(int a, int b, int c, int d, int e) {
        StringBuilder more = new StringBuilder();
        for (int four : new int[] {a, b, c, d, e}) {
            for (int i = 0; i < 4; i++) {
                char one = (char) ((four >>> (24 - 8 * i)) % 256 & 255);
                if (one != 0) {
                    more.append(one);
                }
            }
        }
        if (buffer.length() + more.length() > 600) {
            throw new IllegalStateException();
        }
        buffer.append(more);
        return buffer.length();
    }

    private String takeText() {
        String text = buffer.toString();
        buffer.setLength(0);
        errorAt = -1;
        return text;
    }

    public int load() {
        try {
            State s = readPiece(takeText());
            change();
            now = s;
            return s.events.size();
        } catch (Fault f) {
            errorAt = f.at;
            return f.code;
        }
    }

    public int errorPosition() {
        return errorAt;
    }

    public int count(int what) {
        int notes = 0;
        int least = -1;
        int greatest = -1;
        int blacks = 0;
        int free = 0;
        for (int i = 0; i < now.events.size(); i++) {
            for (int key : now.events.get(i).keys) {
                notes++;
                least = least < 0 || key < least ? key : least;
                greatest = key > greatest ? key : greatest;
                blacks += black(key) ? 1 : 0;
            }
            free += i + 1 < now.events.size() && now.free(i) ? 1 : 0;
        }
        int[] answers = {now.events.size(), notes, now.right ? 1 : 0, least, greatest, blacks, free};
        argument(what >= 0 && what < answers.length);
        return answers[what];
    }

    public int event(int event, int what) {
        index(event, now.events.size());
        argument(what >= 0 && what <= 2);
        Event e = now.events.get(event);
        return what == 0 ? e.keys.size() : what == 1 ? e.rest : now.ways(event).size();
    }

    public int note(int event, int note, int what) {
        needNote(event, note);
        argument(what == 0 || what == 1);
        Event e = now.events.get(event);
        return what == 0 ? e.keys.get(note) : setOf(e.may.get(note));
    }

    public int weight(int weight) {
        index(weight, 10);
        return now.w(NAMES.get(weight));
    }

    public int span(int one, int other, int what) {
        index(one - 1, 5);
        index(other - 1, 5);
        argument(one != other && what >= 0 && what <= 2);
        return now.span(one, other)[what];
    }

    public int link(int finger, int key, int next, int nextKey) {
        index(finger - 1, 5);
        index(next - 1, 5);
        argument(key >= 21 && key <= 108 && nextKey >= 21 && nextKey <= 108);
        return now.link(finger, key, next, nextKey)[1];
    }

    public int best() {
        return now.solve().best;
    }

    public int finger(int event, int note) {
        needNote(event, note);
        return firstOne().get(event)[note];
    }

    public int part(int event, int what) {
        index(event, now.events.size());
        argument(what >= 0 && what <= 2);
        List<int[]> first = firstOne();
        if (what == 0) {
            return now.eventCost(event, first.get(event));
        }
        if (event == 0) {
            return 0;
        }
        if (what == 1) {
            return now.passageCost(event - 1, first.get(event - 1), first.get(event));
        }
        int crossings = 0;
        for (int[] link : now.links(event - 1, first.get(event - 1), first.get(event))) {
            crossings += link[0] == 'd' && !now.free(event - 1) ? 1 : 0;
        }
        return crossings;
    }

    public long many(boolean cheapest) {
        Solution s = now.solve();
        return (cheapest ? s.cheapest : s.all).min(CAP).longValue();
    }

    public int costWith(int event, int note, int finger) {
        needNote(event, note);
        index(finger - 1, 5);
        State s = now.copy();
        s.events.get(event).may.get(note).removeIf(f -> f != finger);
        return s.solve().best;
    }

    public int reaches() {
        State s = now.copy();
        while (s.solve().best < 0) {
            s.events.remove(s.events.size() - 1);
        }
        return s.events.size();
    }

    public int uses(int finger) {
        index(finger - 1, 5);
        int uses = 0;
        for (int[] f : firstOne()) {
            for (int one : f) {
                uses += one == finger ? 1 : 0;
            }
        }
        return uses;
    }

    public int sure() {
        firstOne();
        int best = best();
        int sure = 0;
        for (int e = 0; e < now.events.size(); e++) {
            for (int n = 0; n < now.events.get(e).keys.size(); n++) {
                int fingers = 0;
                for (int f = 1; f <= 5; f++) {
                    fingers += costWith(e, n, f) == best ? 1 : 0;
                }
                sure += fingers == 1 ? 1 : 0;
            }
        }
        return sure;
    }

    public double mean() {
        firstOne();
        return now.notes() == 0 ? 0 : (double) best() / now.notes();
    }

    public int costOfTold() {
        try {
            int cost = now.costOf(readFingering(takeText(), now));
            return cost < 0 ? -10 : cost;
        } catch (Fault f) {
            errorAt = f.at;
            return f.code;
        }
    }

    public int faultOfTold() {
        try {
            List<int[]> told = readFingering(takeText(), now);
            for (int i = 0; i < told.size(); i++) {
                if (!now.eventAllowed(i, told.get(i))) {
                    return 10 * i + 1;
                }
                if (i > 0 && now.passageCost(i - 1, told.get(i - 1), told.get(i)) < 0) {
                    return 10 * i + 2;
                }
            }
            return -10;
        } catch (Fault f) {
            errorAt = f.at;
            return f.code;
        }
    }

    public int otherHand() {
        State s = now.copy();
        s.right = !s.right;
        return s.solve().best;
    }

    public int transposed(int by) {
        argument(by >= -87 && by <= 87 && now.transposed(by).inRange());
        return now.transposed(by).solve().best;
    }

    public int easiest(int range) {
        argument(range >= 0 && range <= 24);
        int[] found = null;
        for (int by = -range; by <= range; by++) {
            State s = now.transposed(by);
            int cost = s.inRange() ? s.byCosts().best : -1;
            if (cost < 0) {
                continue;
            }
            if (found == null || cost < found[1] || cost == found[1] && Math.abs(by) < Math.abs(found[0])) {
                found = new int[] {by, cost};
            }
        }
        if (found == null) {
            throw new NoSuchElementException();
        }
        return found[0];
    }

    public int restBehind() {
        int least = best();
        int found = -1;
        for (int i = 0; i + 1 < now.events.size(); i++) {
            State s = now.copy();
            s.events.get(i).rest = 9;
            int cost = s.byCosts().best;
            if (cost >= 0 && (least < 0 || cost < least)) {
                least = cost;
                found = i;
            }
        }
        return found;
    }

    public int play(int event, int a, int b, int c, int rest) {
        index(event, now.events.size() + 1);
        argument(a >= 21 && a <= 108 && rest >= 0 && rest <= 9);
        argument(b == 0 || b > a && b <= 108);
        argument(c == 0 || b != 0 && c > b && c <= 108);
        if (now.events.size() == 40) {
            return -10;
        }
        change();
        Event e = new Event();
        for (int key : new int[] {a, b, c}) {
            if (key != 0) {
                e.addKey(key);
            }
        }
        e.rest = rest;
        now.events.add(event, e);
        return now.events.size();
    }

    public int drop(int event) {
        index(event, now.events.size());
        change();
        now.events.remove(event);
        return now.events.size();
    }

    public int setRest(int event, int rest) {
        index(event, now.events.size());
        argument(rest >= 0 && rest <= 9);
        change();
        int before = now.events.get(event).rest;
        now.events.get(event).rest = rest;
        return before;
    }

    public int let(int event, int note, int finger, boolean may) {
        needNote(event, note);
        index(finger - 1, 5);
        change();
        List<Integer> fingers = now.events.get(event).may.get(note);
        fingers.remove(Integer.valueOf(finger));
        if (may) {
            fingers.add(finger);
            fingers.sort(null);
        }
        return setOf(fingers);
    }

    public int setWeight(int weight, int value) {
        index(weight, 10);
        argument(value >= 0 && value <= 99);
        change();
        return now.weights.put(NAMES.get(weight), value);
    }

    public int setSpan(int one, int other, int low, int high, int limit) {
        index(one - 1, 5);
        index(other - 1, 5);
        argument(one != other && low >= 1 && low <= high && high <= limit && limit <= 24);
        change();
        return now.spans.put("" + Math.min(one, other) + Math.max(one, other), new int[] {low, high, limit})[2];
    }

    public int setHand(boolean right) {
        change();
        now.right = right;
        return best();
    }

    public int transpose(int by) {
        argument(by >= -87 && by <= 87 && now.transposed(by).inRange());
        change();
        now = now.transposed(by);
        return best();
    }

    public int fix() {
        List<int[]> first = firstOne();
        change();
        int open = 0;
        for (int e = 0; e < first.size(); e++) {
            List<List<Integer>> may = now.events.get(e).may;
            for (int n = 0; n < may.size(); n++) {
                open += may.get(n).size() > 1 ? 1 : 0;
                may.set(n, new ArrayList<>(Arrays.asList(first.get(e)[n])));
            }
        }
        return open;
    }

    public int undo() {
        if (past.isEmpty()) {
            throw new IllegalStateException();
        }
        now = past.remove(past.size() - 1);
        return past.size();
    }

    public void save(int slot) {
        index(slot, 2);
        saved[slot] = now.copy();
    }

    public int restore(int slot) {
        index(slot, 2);
        if (saved[slot] == null) {
            throw new IllegalStateException();
        }
        change();
        now = saved[slot].copy();
        return now.events.size();
    }

    public int writeFingers() {
        StringBuilder text = new StringBuilder();
        List<int[]> first = firstOne();
        for (int i = 0; i < first.size(); i++) {
            text.append(i == 0 ? "" : " ");
            for (int f : first.get(i)) {
                text.append(f);
            }
            text.append(i + 1 < first.size() && now.free(i) ? "'" : "");
        }
        written = text.toString();
        return written.length();
    }

    public int writtenByte(int index) {
        index(index, written.length());
        return written.charAt(index);
    }

    private void change() {
        past.add(now.copy());
        if (past.size() > 8) {
            past.remove(0);
        }
    }

    private List<int[]> firstOne() {
        if (best() < 0) {
            throw new NoSuchElementException();
        }
        return now.first();
    }

    private void needNote(int event, int note) {
        index(event, now.events.size());
        index(note, now.events.get(event).keys.size());
    }

    private static int setOf(List<Integer> fingers) {
        int set = 0;
        for (int f : fingers) {
            set += (int) Math.pow(2, f - 1);
        }
        return set;
    }

    private static void index(int index, int size) {
        if (index < 0 || index >= size) {
            throw new IndexOutOfBoundsException();
        }
    }

    private static void argument(boolean right) {
        if (!right) {
            throw new IllegalArgumentException();
        }
    }
}
