import java.util.ArrayDeque;
import java.util.ArrayList;
import java.util.Arrays;
import java.util.Deque;
import java.util.List;
import java.util.NoSuchElementException;
import java.util.function.IntPredicate;

/**
 * The document once more, written down naively and apart from GrownPost, for RandomRunsTest: LETTERS as
 * values that are never changed, conditions as trees, every question asked by looking AHEAD anew.
 */
public final class Model {
    /** A LETTER. */
    record Letter(List<Integer> kinds, List<Integer> weeks, int temper, int sender, boolean open, boolean hot) {
        Letter plus(int kind, int week) {
            List<Integer> k = new ArrayList<>(kinds);
            List<Integer> w = new ArrayList<>(weeks);
            k.add(kind);
            w.add(week);
            return new Letter(k, w, temper, sender, open, hot);
        }

        Letter without(int line) {
            List<Integer> k = new ArrayList<>(kinds);
            List<Integer> w = new ArrayList<>(weeks);
            k.remove(line);
            w.remove(line);
            return new Letter(k, w, temper, sender, open, hot);
        }

        Letter first(int n) {
            return new Letter(kinds.subList(0, n), weeks.subList(0, n), temper, sender, open, hot);
        }

        Letter tempered(int t) {
            return new Letter(kinds, weeks, t, sender, open, hot);
        }

        Letter sent(int s) {
            return new Letter(kinds, weeks, temper, s, open, hot);
        }

        Letter opened(boolean o) {
            return new Letter(kinds, weeks, temper, sender, o, hot);
        }

        Letter heated(boolean h) {
            return new Letter(kinds, weeks, temper, sender, open, h);
        }

        int size() {
            return kinds.size();
        }

        int last() {
            return kinds.get(kinds.size() - 1);
        }
    }

    /** A condition, or a number of a LETTER in a WEEK. */
    interface Term {
        int of(Letter letter, int week);
    }

    record Rule(int from, int to, Term condition) {
    }

    record Promise(int first, int second) {
    }

    /** All that THE IMAGE keeps. */
    record State(List<Letter> letters, int week, int seed, int came, List<Rule> law, List<Integer> words,
            List<Promise> promises, int slip, int texts) {
    }

    /** A text is wrong at a byte. */
    static final class Wrong extends Exception {
        private static final long serialVersionUID = 1L;
        final int at;

        Wrong(int at) {
            this.at = at;
        }
    }

    private List<Integer> tape = new ArrayList<>();
    private int fault = -1;
    private List<Letter> letters = new ArrayList<>();
    private int week;
    private int seed = 1;
    private int came;
    private List<Rule> law;
    private List<Integer> words = new ArrayList<>(java.util.Collections.nCopies(12, 3));
    private List<Promise> promises = new ArrayList<>();
    private int slip;
    private int texts;
    private final Deque<State> acts = new ArrayDeque<>();
    private State image;

    private State state() {
        return new State(List.copyOf(letters), week, seed, came, law, List.copyOf(words), List.copyOf(promises), slip, texts);
    }

    private void restore(State s) {
        letters = new ArrayList<>(s.letters);
        week = s.week;
        seed = s.seed;
        came = s.came;
        law = s.law;
        words = new ArrayList<>(s.words);
        promises = new ArrayList<>(s.promises);
        slip = s.slip;
        texts = s.texts;
    }

    private void act() {
        acts.addLast(state());
        if (acts.size() > 12) {
            acts.removeFirst();
        }
    }

    // ---- texts

    private String text() {
        StringBuilder s = new StringBuilder();
        for (int b : tape) {
            s.append((char) b);
        }
        tape = new ArrayList<>();
        return s.toString();
    }

    /** What is left of a text, read by its characters. */
    private final class Scan {
        private final String text;
        private int at;

        Scan(String text) {
            this.text = text;
            blanks();
        }

        void blanks() {
            while (at < text.length() && text.charAt(at) == ' ') {
                at++;
            }
        }

        boolean ended() {
            return at == text.length();
        }

        String peek() {
            if (ended()) {
                return "";
            }
            for (String sort : new String[] {"[a-z]+", "[0-9]+", "(?s)."}) {
                java.util.regex.Matcher m = java.util.regex.Pattern.compile(sort).matcher(text).region(at, text.length());
                if (m.lookingAt()) {
                    return m.group();
                }
            }
            throw new AssertionError();
        }

        String next() {
            String thing = peek();
            at += thing.length();
            blanks();
            return thing;
        }

        boolean skip(String thing) {
            boolean is = !ended() && peek().equals(thing);
            if (is) {
                next();
            }
            return is;
        }

        void need(String thing) throws Wrong {
            if (!skip(thing)) {
                throw new Wrong(at);
            }
        }

        int number(int low, int high) throws Wrong {
            if (!peek().matches("[0-9]{1,3}") || Integer.parseInt(peek()) < low || Integer.parseInt(peek()) > high) {
                throw new Wrong(at);
            }
            return Integer.parseInt(next());
        }

        int kind() throws Wrong {
            if (!peek().matches("[a-l]")) {
                throw new Wrong(at);
            }
            return next().charAt(0) - 'a';
        }
    }

    private interface LineReader {
        void read(Scan scan) throws Wrong;
    }

    private void readLines(Scan scan, int most, LineReader reader) throws Wrong {
        for (int i = 0; !scan.ended() || i > 0; i++) {
            if (i == most || scan.ended()) {
                throw new Wrong(scan.at);
            }
            reader.read(scan);
            if (scan.ended()) {
                return;
            }
            scan.need(";");
        }
    }

    private void readPostLine(Scan scan) throws Wrong {
        int begin = scan.at;
        switch (scan.next()) {
            case "letter" -> {
                if (letters.size() == 8) {
                    throw new Wrong(begin);
                }
                scan.need("from");
                int sender = scan.number(0, 9);
                scan.need("temper");
                int temper = scan.number(0, 9);
                if (!scan.peek().matches("[a-l]{1,24}")) {
                    throw new Wrong(scan.at);
                }
                Letter l = new Letter(List.of(), List.of(), temper, sender, false, false);
                for (char c : scan.next().toCharArray()) {
                    l = l.plus(c - 'a', week);
                }
                letters.add(l);
            }
            case "words" -> {
                int kind = scan.kind();
                words.set(kind, scan.number(1, 9));
            }
            case "promise" -> {
                if (promises.size() == 8) {
                    throw new Wrong(begin);
                }
                promises.add(new Promise(scan.kind(), scan.kind()));
            }
            case "slip" -> slip = scan.number(0, 100);
            case "hot" -> {
                int i = scan.number(0, letters.size() - 1);
                letters.set(i, letters.get(i).heated(true));
            }
            case "open" -> {
                int i = scan.number(0, letters.size() - 1);
                letters.set(i, letters.get(i).opened(true));
            }
            case "week" -> week = scan.number(week, 999);
            default -> throw new Wrong(begin);
        }
    }

    private Term either(Scan scan, int deep) throws Wrong {
        Term a = all(scan, deep);
        while (scan.skip("or")) {
            Term left = a;
            Term right = all(scan, deep);
            a = (l, w) -> left.of(l, w) + right.of(l, w) > 0 ? 1 : 0;
        }
        return a;
    }

    private Term all(Scan scan, int deep) throws Wrong {
        Term a = atom(scan, deep);
        while (scan.skip("and")) {
            Term left = a;
            Term right = atom(scan, deep);
            a = (l, w) -> left.of(l, w) * right.of(l, w);
        }
        return a;
    }

    private Term atom(Scan scan, int deep) throws Wrong {
        String thing = scan.peek();
        if ((thing.equals("(") || thing.equals("not")) && deep == 6) {
            throw new Wrong(scan.at);
        }
        if (scan.skip("not")) {
            Term a = atom(scan, deep + 1);
            return (l, w) -> a.of(l, w) == 0 ? 1 : 0;
        }
        if (scan.skip("(")) {
            Term a = either(scan, deep + 1);
            scan.need(")");
            return a;
        }
        if (scan.skip("hot")) {
            return (l, w) -> l.hot ? 1 : 0;
        }
        if (scan.skip("winter")) {
            return (l, w) -> w / 13 % 4 == 3 ? 1 : 0;
        }
        Term left = sum(scan);
        boolean less = scan.skip("<");
        if (!less) {
            scan.need(">");
        }
        Term right = sum(scan);
        return less ? (l, w) -> left.of(l, w) < right.of(l, w) ? 1 : 0 : (l, w) -> left.of(l, w) > right.of(l, w) ? 1 : 0;
    }

    private Term sum(Scan scan) throws Wrong {
        List<Term> parts = new ArrayList<>();
        do {
            parts.add(part(scan));
        } while (scan.skip("+"));
        return (l, w) -> {
            int s = 0;
            for (Term p : parts) {
                s += p.of(l, w);
            }
            return s;
        };
    }

    private Term part(Scan scan) throws Wrong {
        int begin = scan.at;
        if (scan.peek().matches("[0-9]+")) {
            int n = scan.number(0, 999);
            return (l, w) -> n;
        }
        switch (scan.next()) {
            case "length":
                return (l, w) -> l.size();
            case "temper":
                return (l, w) -> l.temper;
            case "before":
                return (l, w) -> l.size() < 2 ? 12 : l.kinds.get(l.size() - 2);
            case "week":
                return (l, w) -> w;
            case "season":
                return (l, w) -> w / 13 % 4;
            case "sender":
                return (l, w) -> l.sender;
            default:
                throw new Wrong(begin);
        }
    }

    // ---- what follows, and AHEAD

    private int follows(Letter l, int w) {
        for (Rule r : law == null ? List.<Rule>of() : law) {
            if (r.from == l.last() && r.condition.of(l, w) == 1) {
                return r.to;
            }
        }
        return -1;
    }

    private int grows(Letter l, int w) {
        return l.open || l.size() == 24 ? -1 : follows(l, w);
    }

    private Letter on(Letter l, int n) {
        return on(l, n, -1);
    }

    private Letter on(Letter l, int n, int fork) {
        int w = week;
        Letter now = l;
        for (int i = 0; i < n; i++) {
            for (int j = 0; j < (l.hot ? 2 : 1); j++) {
                int k = grows(now, w);
                if (k >= 0) {
                    now = now.plus(fork >= 0 && now.size() == l.size() ? fork : k, w);
                }
            }
            w = Math.min(9999, w + 1);
        }
        return now;
    }

    private static int firstOf(IntPredicate is) {
        for (int n = 0; n <= 40; n++) {
            if (is.test(n)) {
                return n;
            }
        }
        return -1;
    }

    private int draw() {
        seed = seed * 1103515245 + 12345;
        return (seed >> 16) & 0x7fff;
    }

    private int week() {
        int n = 0;
        for (int i = 0; i < letters.size(); i++) {
            for (int j = 0; j < (letters.get(i).hot ? 2 : 1); j++) {
                int k = grows(letters.get(i), week);
                if (k >= 0) {
                    letters.set(i, letters.get(i).plus(draw() % 100 < slip ? draw() % 12 : k, week));
                    n++;
                }
            }
        }
        week = Math.min(9999, week + 1);
        return n;
    }

    // ---- arguments

    private Letter get(int letter) {
        if (letter < 0 || letter >= letters.size()) {
            throw new IndexOutOfBoundsException();
        }
        return letters.get(letter);
    }

    private static void index(int i, int size) {
        if (i < 0 || i >= size) {
            throw new IndexOutOfBoundsException();
        }
    }

    private static void within(int n, int low, int high) {
        if (n < low || n > high) {
            throw new IllegalArgumentException();
        }
    }

    private void two(int letter, int other) {
        get(letter);
        get(other);
        if (letter == other) {
            throw new IllegalArgumentException();
        }
    }

    // ---- the face

    public int feed(int a, int b, int c, int d, int e) {
        if (tape.size() > 380) {
            return -1;
        }
        for (int n : new int[] {a, b, c, d, e}) {
            for (int i = 3; i >= 0; i--) {
                tape.add(n >> 8 * i & 255);
            }
        }
        return tape.size();
    }

    public boolean end(int n) {
        if (n < 0 || n > tape.size()) {
            return false;
        }
        tape = new ArrayList<>(tape.subList(0, n));
        return true;
    }

    public int post() {
        State before = state();
        fault = -1;
        try {
            readLines(new Scan(text()), 14, this::readPostLine);
        } catch (Wrong w) {
            restore(before);
            fault = w.at;
            throw new IllegalArgumentException();
        }
        if (texts == 12) {
            restore(before);
            throw new UnsupportedOperationException();
        }
        acts.clear();
        return ++texts;
    }

    public int law() {
        List<Rule> rules = new ArrayList<>();
        fault = -1;
        try {
            readLines(new Scan(text()), 12, scan -> {
                int from = scan.kind();
                scan.need("to");
                int to = scan.kind();
                rules.add(new Rule(from, to, scan.skip("if") ? either(scan, 0) : (l, w) -> 1));
            });
        } catch (Wrong w) {
            fault = w.at;
            throw new IllegalArgumentException();
        }
        law = rules;
        acts.clear();
        return rules.size();
    }

    public int fault() {
        return fault;
    }

    public int letter(int letter, int what) {
        Letter l = get(letter);
        return switch (what) {
            case 0 -> l.size();
            case 1 -> l.temper;
            case 2 -> l.sender;
            case 3 -> l.open ? 1 : 0;
            case 4 -> l.hot ? 1 : 0;
            case 5 -> weight(l);
            case 6 -> l.last();
            case 7 -> grows(l, week);
            default -> throw new NoSuchElementException();
        };
    }

    public int line(int letter, int line, boolean led) {
        Letter l = get(letter);
        index(line, l.size());
        return (led ? l.weeks : l.kinds).get(line);
    }

    public int words(int kind) {
        index(kind, 12);
        return words.get(kind);
    }

    public int promise(int promise, boolean second) {
        index(promise, promises.size());
        return second ? promises.get(promise).second : promises.get(promise).first;
    }

    public int season(int w) {
        within(w, 0, 9999);
        return w / 13 % 4;
    }

    public int write(int sender, int temper) {
        String row = text();
        if (!row.matches("[\0-\13]{1,24}")) {
            throw new IllegalArgumentException();
        }
        within(sender, 0, 9);
        within(temper, 0, 9);
        if (letters.size() == 8) {
            throw new UnsupportedOperationException();
        }
        act();
        Letter l = new Letter(List.of(), List.of(), temper, sender, false, false);
        for (char c : row.toCharArray()) {
            l = l.plus(c, week);
        }
        letters.add(l);
        return letters.size() - 1;
    }

    public boolean open(int letter, boolean open) {
        Letter l = get(letter);
        act();
        letters.set(letter, l.opened(open));
        return l.open != open;
    }

    public int copy(int letter) {
        Letter l = get(letter);
        if (letters.size() == 8) {
            throw new UnsupportedOperationException();
        }
        act();
        letters.add(l.opened(false));
        return letters.size() - 1;
    }

    public int prune(int letter, int n) {
        Letter l = get(letter);
        within(n, 1, l.size() - 1);
        act();
        letters.set(letter, l.first(l.size() - n));
        return l.size() - n;
    }

    public int cut(int letter, int line) {
        Letter l = get(letter);
        index(line, l.size());
        if (l.size() == 1) {
            throw new IllegalStateException();
        }
        act();
        letters.set(letter, l.without(line));
        return l.kinds.get(line);
    }

    public boolean heat(int letter, boolean hot) {
        Letter l = get(letter);
        act();
        letters.set(letter, l.heated(hot));
        return l.hot != hot;
    }

    public int burn(int letter) {
        get(letter);
        act();
        letters.remove(letter);
        return letters.size();
    }

    public int weeks(int n) {
        within(n, 1, 60);
        act();
        int sum = 0;
        for (int i = 0; i < n; i++) {
            sum += week();
        }
        came += sum;
        return sum;
    }

    private int weight(Letter l) {
        int sum = 0;
        for (int k : l.kinds) {
            sum += words.get(k);
        }
        return sum;
    }

    public int ahead(int letter, int n, int what) {
        Letter l = get(letter);
        within(n, 0, 40);
        Letter then = on(l, n);
        return switch (what) {
            case 0 -> then.last();
            case 1 -> then.size();
            case 2 -> weight(then);
            default -> throw new NoSuchElementException();
        };
    }

    public int says(int letter, int kind, boolean holds) {
        Letter l = get(letter);
        index(kind, 12);
        return firstOf(n -> holds ? on(l, n).kinds.contains(kind) : on(l, n).last() == kind);
    }

    public int stops(int letter) {
        Letter l = get(letter);
        return firstOf(n -> grows(on(l, n), Math.min(9999, week + n)) == -1);
    }

    public int stays(int letter, int kind) {
        int first = says(letter, kind, false);
        if (first < 0) {
            return 0;
        }
        int n = first;
        while (n <= 40 && on(get(letter), n).last() == kind) {
            n++;
        }
        return n - first;
    }

    public int send(int sender, int temper, int kind, int n, boolean many) {
        index(kind, 12);
        within(sender, 0, 9);
        within(temper, 0, 9);
        within(n, 0, 40);
        List<Integer> found = new ArrayList<>();
        Letter none = new Letter(List.of(), List.of(), temper, sender, false, false);
        for (int i = 0; i < 12; i++) {
            if (on(none.plus(i, week), n).last() == kind) {
                found.add(i);
            }
        }
        for (int i = 0; i < 12; i++) {
            for (int j = 0; j < 12; j++) {
                if (on(none.plus(i, week).plus(j, week), n).last() == kind) {
                    found.add(12 + 12 * i + j);
                }
            }
        }
        return many ? found.size() : found.isEmpty() ? -1 : found.get(0);
    }

    public int cuts(int letter, int kind, int n, boolean other) {
        Letter l = get(letter);
        index(kind, 12);
        within(n, 0, 40);
        for (int c = 0; c < l.size(); c++) {
            if (on(l.first(l.size() - c), n).last() == kind ^ other) {
                return c;
            }
        }
        return -1;
    }

    public int out(int letter, int kind, int n, boolean other) {
        Letter l = get(letter);
        index(kind, 12);
        within(n, 0, 40);
        int bits = 0;
        for (int i = 0; i < l.size(); i++) {
            if (l.size() > 1 && on(l.without(i), n).last() == kind ^ other) {
                bits += 1 << i;
            }
        }
        return bits;
    }

    private int strays(Letter l) {
        int bits = 0;
        for (int i = 1; i < l.size(); i++) {
            if (follows(l.first(i), l.weeks.get(i)) != l.kinds.get(i)) {
                bits += 1 << i;
            }
        }
        return bits;
    }

    public int astray(int letter) {
        return strays(get(letter));
    }

    public int written(int letter) {
        int bits = strays(get(letter));
        return bits == 0 ? 1 : 32 - Integer.numberOfLeadingZeros(bits);
    }

    public int senseless(int letter) {
        Letter l = get(letter);
        for (int i = 1; i < l.size(); i++) {
            int from = l.kinds.get(i - 1);
            int to = l.kinds.get(i);
            if (law == null || law.stream().noneMatch(r -> r.from == from && r.to == to)) {
                return i;
            }
        }
        return -1;
    }

    public int meet(int letter, int other, boolean one) {
        two(letter, other);
        Letter a = get(letter);
        Letter b = get(other);
        return firstOf(n -> one ? on(a, n).kinds.equals(on(b, n).kinds) : on(a, n).last() == on(b, n).last());
    }

    public int part(int letter, int other) {
        two(letter, other);
        List<Integer> a = get(letter).kinds;
        List<Integer> b = get(other).kinds;
        if (a.equals(b)) {
            return -1;
        }
        int i = 0;
        while (i < a.size() && i < b.size() && a.get(i).equals(b.get(i))) {
            i++;
        }
        return i;
    }

    public int drawer() {
        int least = 99;
        int pair = -1;
        for (int i = 0; i < letters.size(); i++) {
            for (int j = i + 1; j < letters.size(); j++) {
                int n = letters.get(i).open || letters.get(j).open ? -1 : meet(i, j, false);
                if (n >= 0 && n < least) {
                    least = n;
                    pair = 10 * i + j;
                }
            }
        }
        return pair;
    }

    private int binds(Letter l) {
        int bits = 0;
        for (int p = 0; p < promises.size(); p++) {
            int first = l.kinds.indexOf(promises.get(p).first);
            int second = l.kinds.lastIndexOf(promises.get(p).second);
            bits += first >= 0 && first < second ? 1 << p : 0;
        }
        return bits;
    }

    public int bound(int letter, int n) {
        Letter l = get(letter);
        within(n, 0, 40);
        return binds(on(l, n));
    }

    public int when(int letter, int promise) {
        Letter l = get(letter);
        index(promise, promises.size());
        return firstOf(n -> (binds(on(l, n)) & 1 << promise) != 0);
    }

    public int soonest(int promise) {
        index(promise, promises.size());
        int first = firstOf(n -> letters.stream().anyMatch(l -> (binds(on(l, n)) & 1 << promise) != 0));
        for (int i = 0; first >= 0; i++) {
            if ((binds(on(letters.get(i), first)) & 1 << promise) != 0) {
                return i;
            }
        }
        return -1;
    }

    public int spies(int n) {
        int bits = 0;
        for (int i = 0; i < letters.size(); i++) {
            bits += weight(letters.get(i)) == n ? 1 << i : 0;
        }
        return bits;
    }

    public int guess(int letter) {
        int n = words.get(get(letter).last());
        int bits = 0;
        for (int k = 0; k < 12; k++) {
            bits += words.get(k) == n ? 1 << k : 0;
        }
        return bits;
    }

    public int postage(int letter, int n, boolean sooner) {
        Letter l = get(letter);
        within(n, sooner ? 1 : 0, 40);
        Letter then = on(l, n);
        int price = (int) Math.ceil(weight(then) / 10.0) + 2 * Integer.bitCount(binds(then));
        return sooner ? price - postage(letter, n - 1, false) : price;
    }

    public int forks(int letter, int n) {
        Letter l = get(letter);
        within(n, 1, 40);
        int bits = 0;
        for (int k = 0; k < 12; k++) {
            bits |= 1 << on(l, n, k).last();
        }
        return bits;
    }

    public int ripe(int letter, boolean much) {
        Letter l = get(letter);
        int most = Integer.bitCount(binds(on(l, 40)));
        return much ? most : firstOf(n -> Integer.bitCount(binds(on(l, n))) == most);
    }

    public int has(int letter) {
        int bits = 0;
        for (int k : get(letter).kinds) {
            bits |= 1 << k;
        }
        return bits;
    }

    private static String row(List<Integer> kinds) {
        StringBuilder s = new StringBuilder();
        for (int k : kinds) {
            s.append((char) ('a' + k));
        }
        return s.toString();
    }

    public int echo(int letter) {
        String s = row(get(letter).kinds);
        for (int n = s.length() - 1; n > 0; n--) {
            for (int i = 0; i + n <= s.length(); i++) {
                if (s.indexOf(s.substring(i, i + n), i + 1) > 0) {
                    return n;
                }
            }
        }
        return 0;
    }

    public int common(int letter, int other) {
        two(letter, other);
        String s = row(get(letter).kinds);
        String t = row(get(other).kinds);
        for (int n = s.length(); n > 0; n--) {
            for (int i = 0; i + n <= s.length(); i++) {
                if (t.contains(s.substring(i, i + n))) {
                    return n;
                }
            }
        }
        return 0;
    }

    public int author(int letter, boolean sender) {
        Letter l = get(letter);
        int best = 0;
        int fewest = 99;
        for (int d = 0; d < 10; d++) {
            int n = Integer.bitCount(strays(sender ? l.sent(d) : l.tempered(d)));
            if (n < fewest) {
                fewest = n;
                best = d;
            }
        }
        return best;
    }

    public int shelves(int n, int weeks, boolean most) {
        within(n, 1, 99);
        within(weeks, 0, 40);
        int[] lines = letters.stream().mapToInt(l -> on(l, weeks).size()).sorted().toArray();
        if (most) {
            int sum = 0;
            int count = 0;
            while (count < lines.length && sum + lines[count] <= n) {
                sum += lines[count++];
            }
            return count;
        }
        if (lines.length > 0 && lines[lines.length - 1] > n) {
            return -1;
        }
        for (int shelves = 0;; shelves++) {
            if (fits(lines, lines.length - 1, new int[shelves], n)) {
                return shelves;
            }
        }
    }

    private static boolean fits(int[] lines, int i, int[] shelves, int room) {
        if (i < 0) {
            return true;
        }
        for (int s = 0; s < shelves.length; s++) {
            if (shelves[s] + lines[i] <= room) {
                int[] more = shelves.clone();
                more[s] += lines[i];
                if (fits(lines, i - 1, more, room)) {
                    return true;
                }
            }
        }
        return false;
    }

    public int tempers(int letter, int n, int kind) {
        Letter l = get(letter);
        index(kind, kind == -1 ? kind : 12, true);
        within(n, 0, 40);
        int[] tally = new int[12];
        for (int t = 0; t < 10; t++) {
            tally[on(l.tempered(t), n).last()]++;
        }
        if (kind >= 0) {
            return tally[kind];
        }
        int most = Arrays.stream(tally).max().getAsInt();
        int least = 0;
        while (tally[least] < most) {
            least++;
        }
        return least;
    }

    private static void index(int i, int size, boolean noneToo) {
        if (!noneToo || i != -1) {
            index(i, size);
        }
    }

    private int tried(int n, int from, int letter) {
        State before = state();
        seed = from;
        for (int i = 0; i < n; i++) {
            week();
        }
        int answer = letter >= 0 ? letters.get(letter).last() : letters.stream().mapToInt(Letter::size).sum();
        restore(before);
        return answer;
    }

    public int trial(int n, int letter) {
        index(letter, letters.size(), true);
        within(n, 0, 40);
        return tried(n, seed, letter);
    }

    public int span(int n, boolean most) {
        within(n, 0, 40);
        int[] lines = new int[6];
        for (int s = 1; s <= 6; s++) {
            lines[s - 1] = tried(n, s, -1);
        }
        Arrays.sort(lines);
        return most ? lines[5] : lines[0];
    }

    public int latest(int w) {
        int best = -1;
        long most = 0;
        for (int i = 0; i < letters.size(); i++) {
            long n = letters.get(i).weeks.stream().filter(x -> x == w).count();
            if (n > most) {
                most = n;
                best = i;
            }
        }
        return best;
    }

    public int seed(int n) {
        int was = seed;
        seed = n;
        return was;
    }

    public boolean undo() {
        if (acts.isEmpty()) {
            return false;
        }
        restore(acts.removeLast());
        return true;
    }

    public void image() {
        image = state();
    }

    public boolean back() {
        if (image == null) {
            return false;
        }
        restore(image);
        acts.clear();
        return true;
    }

    public int count(int what) {
        int open = 0;
        int hot = 0;
        for (int i = 0; i < letters.size(); i++) {
            open += letters.get(i).open ? 1 << i : 0;
            hot += letters.get(i).hot ? 1 << i : 0;
        }
        return switch (what) {
            case 0 -> letters.size();
            case 1 -> promises.size();
            case 2 -> texts;
            case 3 -> law == null ? -1 : law.size();
            case 4 -> week;
            case 5 -> slip;
            case 6 -> letters.stream().mapToInt(Letter::size).sum();
            case 7 -> open;
            case 8 -> hot;
            case 9 -> came;
            case 10 -> acts.size();
            default -> -1;
        };
    }
}
