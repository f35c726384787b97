import java.util.NoSuchElementException;

/**
 * A post in a country where letters grow if unopened. The document ../shared/DOC.md tells what each
 * call does; words in capitals here are its terms.
 */
public final class GrownPost {
    public static final int NONE = -1;

    private static final int KINDS = 12;
    private static final int TEN = 10;
    private static final int MOST_LETTERS = 8;
    private static final int MOST_LINES = 24;
    private static final int MOST_PROMISES = 8;
    private static final int MOST_TEXTS = 12;
    private static final int MOST_TEXT_LINES = 14;
    private static final int MOST_LAW_LINES = 12;
    private static final int MOST_DEEP = 6;
    private static final int MOST_ACTS = 12;
    private static final int MOST_AHEAD = 40;
    private static final int MOST_WEEKS = 60;
    private static final int MOST_ON_SHELF = 99;
    private static final int MOST_SLIP = 100;
    private static final int SEEDS = 6;
    private static final int LAST_WEEK = 9999;
    private static final int LAST_TOLD_WEEK = 999;
    private static final int WINTER_SEASON = 3;
    private static final int FIRST_WORDS = 3;
    private static final int TAPE_ROOM = 400;
    private static final int FEED_BYTES = 20;

    // A number's code is the number itself (0 to 999); the words' codes go on behind, in the order of
    // KNOWN_WORDS, so that what a condition can ask for stands between HOT and SENDER.
    private static final String KNOWN_WORDS =
            "hot winter length temper before week season sender not and or to if letter from words promise slip open";
    private static final int LAST_NUMBER = 999;
    private static final int HOT = 1000;
    private static final int WINTER = 1001;
    private static final int LENGTH = 1002;
    private static final int TEMPER = 1003;
    private static final int BEFORE = 1004;
    private static final int WEEK = 1005;
    private static final int SEASON = 1006;
    private static final int SENDER = 1007;
    private static final int NOT = 1008;
    private static final int AND = 1009;
    private static final int OR = 1010;
    private static final int TO = 1011;
    private static final int IF = 1012;
    private static final int LETTER = 1013;
    private static final int FROM = 1014;
    private static final int WORDS = 1015;
    private static final int PROMISE = 1016;
    private static final int SLIP = 1017;
    private static final int OPEN = 1018;
    private static final int OTHER_WORD = 1019;
    private static final int LONG_NUMBER = 1020;
    private static final int END_OF_TEXT = 1021;
    private static final int SIGN = 1100;
    private static final int OPENING = SIGN + '(';
    private static final int CLOSING = SIGN + ')';
    private static final int PLUS = SIGN + '+';
    private static final int SEMICOLON = SIGN + ';';
    private static final int LESS = SIGN + '<';
    private static final int MORE = SIGN + '>';

    private final int[] tape = new int[TAPE_ROOM];
    private int tapeSize;
    private int wrongByte = NONE;
    private final World now = new World();
    private final World kept = new World();
    private boolean isKept;
    private final Memory memory = new Memory();
    private final PostReader postReader = new PostReader();
    private final LawReader lawReader = new LawReader();
    private final Sight sight = new Sight();
    private final Sight otherSight = new Sight();
    private final Bag trialBag = new Bag();
    private final Shelving shelving = new Shelving();
    private final int[][] lastsAhead = new int[MOST_LETTERS][MOST_AHEAD + 1];
    private final int[] tally = new int[KINDS];

    public GrownPost() {
    }

    // ---- the TAPE and the texts

    public int feed(int a, int b, int c, int d, int e) {
        if (tapeSize + FEED_BYTES > TAPE_ROOM) {
            return NONE;
        }
        putBytes(a);
        putBytes(b);
        putBytes(c);
        putBytes(d);
        putBytes(e);
        return tapeSize;
    }

    public boolean end(int n) {
        if (n < 0 || n > tapeSize) {
            return false;
        }
        tapeSize = n;
        return true;
    }

    public int post() throws IllegalArgumentException, UnsupportedOperationException {
        postReader.draft.become(now);
        boolean right = postReader.readText(tape, tapeSize, MOST_TEXT_LINES);
        endReading(postReader.tokens.wrong);
        if (!right) {
            throw new IllegalArgumentException("the text of THE POST is wrong");
        }
        if (now.texts >= MOST_TEXTS) {
            throw new UnsupportedOperationException("there are 12 texts");
        }
        postReader.draft.texts++;
        now.become(postReader.draft);
        memory.forget();
        return now.texts;
    }

    public int law() throws IllegalArgumentException {
        lawReader.draft.clear();
        boolean right = lawReader.readText(tape, tapeSize, MOST_LAW_LINES);
        endReading(lawReader.tokens.wrong);
        if (!right) {
            throw new IllegalArgumentException("the text of THE LAW is wrong");
        }
        lawReader.draft.told = true;
        now.law.become(lawReader.draft);
        memory.forget();
        return now.law.size;
    }

    public int fault() {
        return wrongByte;
    }

    // ---- what there is now

    public int letter(int letter, int what) throws IndexOutOfBoundsException, NoSuchElementException {
        Mail mail = mailOf(letter);
        switch (what) {
            case 0:
                return mail.lines;
            case 1:
                return mail.temper;
            case 2:
                return mail.sender;
            case 3:
                return mail.open ? 1 : 0;
            case 4:
                return mail.hot ? 1 : 0;
            case 5:
                return now.wordsIn(mail);
            case 6:
                return mail.lastKind();
            case 7:
                return now.law.growth(mail, now.bag.week);
            default:
                throw new NoSuchElementException("what is 0 to 7");
        }
    }

    public int line(int letter, int line, boolean led) throws IndexOutOfBoundsException {
        Mail mail = mailOf(letter);
        needLine(mail, line);
        return led ? mail.weekAt(line) : mail.kindAt(line);
    }

    public int words(int kind) throws IndexOutOfBoundsException {
        needKind(kind);
        return now.wordsFor(kind);
    }

    public int promise(int promise, boolean second) throws IndexOutOfBoundsException {
        needPromise(promise);
        return now.promised(promise, second);
    }

    public int season(int week) throws IllegalArgumentException {
        if (week < 0 || week > LAST_WEEK) {
            throw new IllegalArgumentException("WEEK is 0 to 9999");
        }
        return seasonOf(week);
    }

    // ---- the ACTS

    public int write(int sender, int temper) throws IllegalArgumentException, UnsupportedOperationException {
        int bytes = tapeSize;
        tapeSize = 0;
        if (!areKinds(bytes) || isNoDigit(sender) || isNoDigit(temper)) {
            throw new IllegalArgumentException("the TAPE, SENDER or TEMPER is wrong");
        }
        if (now.bag.size >= MOST_LETTERS) {
            throw new UnsupportedOperationException("there are 8 LETTERS");
        }
        memory.remember(now.bag);
        Mail mail = now.bag.mails[now.bag.size];
        mail.begin(sender, temper);
        for (int i = 0; i < bytes && i < TAPE_ROOM; i++) {
            mail.add(tape[i], now.bag.week);
        }
        now.bag.size++;
        return now.bag.size - 1;
    }

    public boolean open(int letter, boolean open) throws IndexOutOfBoundsException {
        Mail mail = mailOf(letter);
        memory.remember(now.bag);
        boolean changes = mail.open != open;
        mail.open = open;
        return changes;
    }

    public int copy(int letter) throws IndexOutOfBoundsException, UnsupportedOperationException {
        Mail mail = mailOf(letter);
        if (now.bag.size >= MOST_LETTERS) {
            throw new UnsupportedOperationException("there are 8 LETTERS");
        }
        memory.remember(now.bag);
        Mail twin = now.bag.mails[now.bag.size];
        twin.become(mail);
        twin.open = false;
        now.bag.size++;
        return now.bag.size - 1;
    }

    public int prune(int letter, int n) throws IndexOutOfBoundsException, IllegalArgumentException {
        Mail mail = mailOf(letter);
        if (n < 1 || n >= mail.lines) {
            throw new IllegalArgumentException("no LINE would go, or none stay");
        }
        memory.remember(now.bag);
        mail.shorten(n);
        return mail.lines;
    }

    public int cut(int letter, int line) throws IndexOutOfBoundsException, IllegalStateException {
        Mail mail = mailOf(letter);
        needLine(mail, line);
        if (mail.lines < 2) {
            throw new IllegalStateException("no LINE would stay");
        }
        memory.remember(now.bag);
        int kind = mail.kindAt(line);
        mail.drop(line);
        return kind;
    }

    public boolean heat(int letter, boolean hot) throws IndexOutOfBoundsException {
        Mail mail = mailOf(letter);
        memory.remember(now.bag);
        boolean changes = mail.hot != hot;
        mail.hot = hot;
        return changes;
    }

    public int burn(int letter) throws IndexOutOfBoundsException {
        needLetter(letter);
        memory.remember(now.bag);
        now.bag.drop(letter);
        return now.bag.size;
    }

    public int weeks(int n) throws IllegalArgumentException {
        if (n < 1 || n > MOST_WEEKS) {
            throw new IllegalArgumentException("1 to 60 WEEKS");
        }
        memory.remember(now.bag);
        int came = 0;
        for (int i = 0; i < n; i++) {
            came += now.bag.passWeek(now.law, now.slip);
        }
        now.bag.came += came;
        return came;
    }

    // ---- what LETTERS will be

    public int ahead(int letter, int n, int what)
            throws IndexOutOfBoundsException, IllegalArgumentException, NoSuchElementException {
        Mail mail = mailOf(letter);
        needAhead(n, 0);
        if (what < 0 || what > 2) {
            throw new NoSuchElementException("what is 0 to 2");
        }
        sight.look(mail, now.bag.week);
        sight.go(now.law, n);
        if (what == 0) {
            return sight.mail.lastKind();
        }
        return what == 1 ? sight.mail.lines : now.wordsIn(sight.mail);
    }

    public int says(int letter, int kind, boolean holds) throws IndexOutOfBoundsException {
        Mail mail = mailOf(letter);
        needKind(kind);
        sight.look(mail, now.bag.week);
        for (int n = 0; n <= MOST_AHEAD; n++) {
            boolean said = holds ? sight.mail.holds(kind) : sight.mail.lastKind() == kind;
            if (said) {
                return n;
            }
            sight.goWeek(now.law);
        }
        return NONE;
    }

    public int stops(int letter) throws IndexOutOfBoundsException {
        Mail mail = mailOf(letter);
        sight.look(mail, now.bag.week);
        for (int n = 0; n <= MOST_AHEAD; n++) {
            if (now.law.growth(sight.mail, sight.week) == NONE) {
                return n;
            }
            sight.goWeek(now.law);
        }
        return NONE;
    }

    public int stays(int letter, int kind) throws IndexOutOfBoundsException {
        Mail mail = mailOf(letter);
        needKind(kind);
        sight.look(mail, now.bag.week);
        int stayed = 0;
        for (int n = 0; n <= MOST_AHEAD; n++) {
            if (sight.mail.lastKind() == kind) {
                stayed++;
            } else if (stayed > 0) {
                return stayed;
            }
            sight.goWeek(now.law);
        }
        return stayed;
    }

    public int send(int sender, int temper, int kind, int n, boolean many)
            throws IndexOutOfBoundsException, IllegalArgumentException {
        needKind(kind);
        needDigit(sender);
        needDigit(temper);
        needAhead(n, 0);
        int found = 0;
        for (int row = 0; row < KINDS + KINDS * KINDS; row++) {
            sight.lookAtRow(row, sender, temper, now.bag.week);
            sight.go(now.law, n);
            if (sight.mail.lastKind() == kind) {
                if (!many) {
                    return row;
                }
                found++;
            }
        }
        return many ? found : NONE;
    }

    public int cuts(int letter, int kind, int n, boolean other)
            throws IndexOutOfBoundsException, IllegalArgumentException {
        Mail mail = mailOf(letter);
        needKind(kind);
        needAhead(n, 0);
        for (int off = 0; off < mail.lines; off++) {
            sight.look(mail, now.bag.week);
            sight.mail.shorten(off);
            sight.go(now.law, n);
            if ((sight.mail.lastKind() == kind) != other) {
                return off;
            }
        }
        return NONE;
    }

    public int out(int letter, int kind, int n, boolean other)
            throws IndexOutOfBoundsException, IllegalArgumentException {
        Mail mail = mailOf(letter);
        needKind(kind);
        needAhead(n, 0);
        int bits = 0;
        for (int line = 0; line < mail.lines && mail.lines > 1; line++) {
            sight.look(mail, now.bag.week);
            sight.mail.drop(line);
            sight.go(now.law, n);
            if ((sight.mail.lastKind() == kind) != other) {
                bits |= 1 << line;
            }
        }
        return bits;
    }

    // ---- how LETTERS came to be

    public int astray(int letter) throws IndexOutOfBoundsException {
        return now.law.astrayIn(mailOf(letter));
    }

    public int written(int letter) throws IndexOutOfBoundsException {
        int bits = now.law.astrayIn(mailOf(letter));
        for (int line = MOST_LINES - 1; line > 0; line--) {
            if ((bits >> line & 1) == 1) {
                return line + 1;
            }
        }
        return 1;
    }

    public int senseless(int letter) throws IndexOutOfBoundsException {
        Mail mail = mailOf(letter);
        for (int line = 1; line < mail.lines; line++) {
            if (!now.law.leads(mail.kindAt(line - 1), mail.kindAt(line))) {
                return line;
            }
        }
        return NONE;
    }

    // ---- two LETTERS

    public int meet(int letter, int other, boolean one) throws IndexOutOfBoundsException, IllegalArgumentException {
        Mail mail = mailOf(letter);
        Mail second = mailOf(other);
        needTwo(letter, other);
        sight.look(mail, now.bag.week);
        otherSight.look(second, now.bag.week);
        for (int n = 0; n <= MOST_AHEAD; n++) {
            boolean met = one ? sight.mail.firstUnlike(otherSight.mail) == NONE
                    : sight.mail.lastKind() == otherSight.mail.lastKind();
            if (met) {
                return n;
            }
            sight.goWeek(now.law);
            otherSight.goWeek(now.law);
        }
        return NONE;
    }

    public int part(int letter, int other) throws IndexOutOfBoundsException, IllegalArgumentException {
        Mail mail = mailOf(letter);
        Mail second = mailOf(other);
        needTwo(letter, other);
        return mail.firstUnlike(second);
    }

    public int drawer() {
        fillLastsAhead();
        int soonest = MOST_AHEAD + 1;
        int pair = NONE;
        for (int i = 0; i < now.bag.size; i++) {
            for (int j = i + 1; j < now.bag.size; j++) {
                int n = now.bag.areSealed(i, j) ? firstMeeting(i, j) : NONE;
                if (n != NONE && n < soonest) {
                    soonest = n;
                    pair = 10 * i + j;
                }
            }
        }
        return pair;
    }

    // ---- PROMISES, WORDS and POSTAGE

    public int bound(int letter, int n) throws IndexOutOfBoundsException, IllegalArgumentException {
        Mail mail = mailOf(letter);
        needAhead(n, 0);
        sight.look(mail, now.bag.week);
        sight.go(now.law, n);
        return now.binding(sight.mail);
    }

    public int when(int letter, int promise) throws IndexOutOfBoundsException {
        Mail mail = mailOf(letter);
        needPromise(promise);
        return firstBinding(mail, promise);
    }

    public int soonest(int promise) throws IndexOutOfBoundsException {
        needPromise(promise);
        int least = MOST_AHEAD + 1;
        int first = NONE;
        for (int i = 0; i < now.bag.size; i++) {
            int n = firstBinding(now.bag.mails[i], promise);
            if (n != NONE && n < least) {
                least = n;
                first = i;
            }
        }
        return first;
    }

    public int spies(int words) {
        int bits = 0;
        for (int i = 0; i < now.bag.size; i++) {
            if (now.wordsIn(now.bag.mails[i]) == words) {
                bits |= 1 << i;
            }
        }
        return bits;
    }

    public int guess(int letter) throws IndexOutOfBoundsException {
        int sought = now.wordsFor(mailOf(letter).lastKind());
        int bits = 0;
        for (int kind = 0; kind < KINDS; kind++) {
            if (now.wordsFor(kind) == sought) {
                bits |= 1 << kind;
            }
        }
        return bits;
    }

    public int postage(int letter, int n, boolean sooner) throws IndexOutOfBoundsException, IllegalArgumentException {
        Mail mail = mailOf(letter);
        needAhead(n, sooner ? 1 : 0);
        sight.look(mail, now.bag.week);
        sight.go(now.law, sooner ? n - 1 : n);
        int price = now.postageFor(sight.mail);
        if (!sooner) {
            return price;
        }
        sight.goWeek(now.law);
        return now.postageFor(sight.mail) - price;
    }

    public int forks(int letter, int n) throws IndexOutOfBoundsException, IllegalArgumentException {
        Mail mail = mailOf(letter);
        needAhead(n, 1);
        int bits = 0;
        for (int kind = 0; kind < KINDS; kind++) {
            sight.look(mail, now.bag.week);
            sight.fork = kind;
            sight.go(now.law, n);
            bits |= 1 << sight.mail.lastKind();
        }
        return bits;
    }

    public int ripe(int letter, boolean much) throws IndexOutOfBoundsException {
        Mail mail = mailOf(letter);
        sight.look(mail, now.bag.week);
        int most = NONE;
        int first = 0;
        for (int n = 0; n <= MOST_AHEAD; n++) {
            int binding = Integer.bitCount(now.binding(sight.mail));
            if (binding > most) {
                most = binding;
                first = n;
            }
            sight.goWeek(now.law);
        }
        return much ? most : first;
    }

    // ---- what stands in LETTERS

    public int has(int letter) throws IndexOutOfBoundsException {
        return mailOf(letter).kindSet();
    }

    public int echo(int letter) throws IndexOutOfBoundsException {
        Mail mail = mailOf(letter);
        int most = 0;
        for (int i = 0; i < mail.lines; i++) {
            for (int j = i + 1; j < mail.lines; j++) {
                most = Math.max(most, mail.alikeFrom(i, mail, j));
            }
        }
        return most;
    }

    public int common(int letter, int other) throws IndexOutOfBoundsException, IllegalArgumentException {
        Mail mail = mailOf(letter);
        Mail second = mailOf(other);
        needTwo(letter, other);
        int most = 0;
        for (int i = 0; i < mail.lines; i++) {
            for (int j = 0; j < second.lines; j++) {
                most = Math.max(most, mail.alikeFrom(i, second, j));
            }
        }
        return most;
    }

    public int author(int letter, boolean sender) throws IndexOutOfBoundsException {
        sight.look(mailOf(letter), now.bag.week);
        int fewest = MOST_LINES + 1;
        int best = 0;
        for (int digit = 0; digit < TEN; digit++) {
            if (sender) {
                sight.mail.sender = digit;
            } else {
                sight.mail.temper = digit;
            }
            int strays = Integer.bitCount(now.law.astrayIn(sight.mail));
            if (strays < fewest) {
                fewest = strays;
                best = digit;
            }
        }
        return best;
    }

    // ---- SHELVES, TEMPERS, TRIALS

    public int shelves(int n, int weeks, boolean most) throws IllegalArgumentException {
        if (n < 1 || n > MOST_ON_SHELF) {
            throw new IllegalArgumentException("a shelf holds 1 to 99 LINES");
        }
        needAhead(weeks, 0);
        shelving.clear();
        for (int i = 0; i < now.bag.size; i++) {
            sight.look(now.bag.mails[i], now.bag.week);
            sight.go(now.law, weeks);
            shelving.add(sight.mail.lines);
        }
        return most ? shelving.mostOnOne(n) : shelving.fewestShelves(n);
    }

    public int tempers(int letter, int n, int kind) throws IndexOutOfBoundsException, IllegalArgumentException {
        Mail mail = mailOf(letter);
        if (kind != NONE) {
            needKind(kind);
        }
        needAhead(n, 0);
        tallyTempers(mail, n);
        if (kind >= 0 && kind < KINDS) {
            return tally[kind];
        }
        int likely = 0;
        for (int i = 1; i < KINDS; i++) {
            if (tally[i] > tally[likely]) {
                likely = i;
            }
        }
        return likely;
    }

    public int trial(int n, int letter) throws IndexOutOfBoundsException, IllegalArgumentException {
        if (letter != NONE) {
            needLetter(letter);
        }
        needAhead(n, 0);
        tryWeeks(n, now.bag.seed);
        return letter < 0 ? trialBag.linesInAll() : trialBag.mails[letter].lastKind();
    }

    public int span(int n, boolean most) throws IllegalArgumentException {
        needAhead(n, 0);
        int fewest = MOST_LETTERS * MOST_LINES;
        int greatest = 0;
        for (int seed = 1; seed <= SEEDS; seed++) {
            tryWeeks(n, seed);
            int lines = trialBag.linesInAll();
            fewest = Math.min(fewest, lines);
            greatest = Math.max(greatest, lines);
        }
        return most ? greatest : fewest;
    }

    public int latest(int week) {
        int most = 0;
        int latest = NONE;
        for (int i = 0; i < now.bag.size; i++) {
            int lines = now.bag.mails[i].linesOf(week);
            if (lines > most) {
                most = lines;
                latest = i;
            }
        }
        return latest;
    }

    public int seed(int n) {
        int before = now.bag.seed;
        now.bag.seed = n;
        return before;
    }

    // ---- going back, and counts

    public boolean undo() {
        return memory.takeBack(now.bag);
    }

    public void image() {
        kept.become(now);
        isKept = true;
    }

    public boolean back() {
        if (!isKept) {
            return false;
        }
        now.become(kept);
        memory.forget();
        return true;
    }

    public int count(int what) {
        switch (what) {
            case 0:
                return now.bag.size;
            case 1:
                return now.promises;
            case 2:
                return now.texts;
            case 3:
                return now.law.told ? now.law.size : NONE;
            case 4:
                return now.bag.week;
            case 5:
                return now.slip;
            case 6:
                return now.bag.linesInAll();
            case 7:
                return now.bag.openSet();
            case 8:
                return now.bag.hotSet();
            case 9:
                return now.bag.came;
            case 10:
                return memory.size;
            default:
                return NONE;
        }
    }

    // ---- what the calls share

    private void putBytes(int number) {
        for (int shift = 24; shift >= 0; shift -= 8) {
            if (tapeSize < TAPE_ROOM) {
                tape[tapeSize] = number >>> shift & 255;
                tapeSize++;
            }
        }
    }

    private void endReading(int wrong) {
        tapeSize = 0;
        wrongByte = wrong;
    }

    /** Whether the TAPE's first bytes are the KINDS of a LETTER: numbers, where texts have the signs a to l. */
    private boolean areKinds(int bytes) {
        if (bytes < 1 || bytes > MOST_LINES) {
            return false;
        }
        for (int i = 0; i < bytes; i++) {
            if (tape[i] < 0 || tape[i] >= KINDS) {
                return false;
            }
        }
        return true;
    }

    private Mail mailOf(int letter) {
        needLetter(letter);
        return now.bag.mails[letter];
    }

    private void needLetter(int letter) {
        if (letter < 0 || letter >= now.bag.size) {
            throw new IndexOutOfBoundsException("no such LETTER");
        }
    }

    private static void needLine(Mail mail, int line) {
        if (line < 0 || line >= mail.lines) {
            throw new IndexOutOfBoundsException("no such LINE");
        }
    }

    private static void needKind(int kind) {
        if (kind < 0 || kind >= KINDS) {
            throw new IndexOutOfBoundsException("no such KIND");
        }
    }

    private void needPromise(int promise) {
        if (promise < 0 || promise >= now.promises) {
            throw new IndexOutOfBoundsException("no such PROMISE");
        }
    }

    private static void needAhead(int n, int least) {
        if (n < least || n > MOST_AHEAD) {
            throw new IllegalArgumentException("so many WEEKS AHEAD are none");
        }
    }

    private static boolean isNoDigit(int n) {
        return n < 0 || n >= TEN;
    }

    private static void needDigit(int n) {
        if (isNoDigit(n)) {
            throw new IllegalArgumentException("SENDERS and TEMPERS are 0 to 9");
        }
    }

    private static void needTwo(int letter, int other) {
        if (letter == other) {
            throw new IllegalArgumentException("both are one");
        }
    }

    private static int seasonOf(int week) {
        return week / 13 % 4;
    }

    private void fillLastsAhead() {
        for (int i = 0; i < now.bag.size; i++) {
            sight.look(now.bag.mails[i], now.bag.week);
            for (int n = 0; n <= MOST_AHEAD; n++) {
                lastsAhead[i][n] = sight.mail.lastKind();
                sight.goWeek(now.law);
            }
        }
    }

    private int firstMeeting(int one, int other) {
        for (int n = 0; n <= MOST_AHEAD; n++) {
            if (lastsAhead[one][n] == lastsAhead[other][n]) {
                return n;
            }
        }
        return NONE;
    }

    private int firstBinding(Mail mail, int promise) {
        sight.look(mail, now.bag.week);
        for (int n = 0; n <= MOST_AHEAD; n++) {
            if ((now.binding(sight.mail) >> promise & 1) == 1) {
                return n;
            }
            sight.goWeek(now.law);
        }
        return NONE;
    }

    private void tallyTempers(Mail mail, int n) {
        for (int kind = 0; kind < KINDS; kind++) {
            tally[kind] = 0;
        }
        for (int temper = 0; temper < TEN; temper++) {
            sight.look(mail, now.bag.week);
            sight.mail.temper = temper;
            sight.go(now.law, n);
            int last = sight.mail.lastKind();
            if (last >= 0 && last < KINDS) {
                tally[last]++;
            }
        }
    }

    private void tryWeeks(int n, int seed) {
        trialBag.become(now.bag);
        trialBag.seed = seed;
        for (int i = 0; i < n; i++) {
            trialBag.passWeek(now.law, now.slip);
        }
    }

    /** A LETTER. */
    private static final class Mail {
        private final int[] kinds = new int[MOST_LINES];
        private final int[] weeks = new int[MOST_LINES];
        private int lines;
        private int temper;
        private int sender;
        private boolean open;
        private boolean hot;

        void become(Mail other) {
            System.arraycopy(other.kinds, 0, kinds, 0, MOST_LINES);
            System.arraycopy(other.weeks, 0, weeks, 0, MOST_LINES);
            lines = other.lines;
            temper = other.temper;
            sender = other.sender;
            open = other.open;
            hot = other.hot;
        }

        void begin(int by, int mood) {
            lines = 0;
            sender = by;
            temper = mood;
            open = false;
            hot = false;
        }

        void add(int kind, int week) {
            if (lines < MOST_LINES) {
                kinds[lines] = kind;
                weeks[lines] = week;
                lines++;
            }
        }

        void shorten(int n) {
            if (n >= 0 && n <= lines) {
                lines -= n;
            }
        }

        void drop(int line) {
            if (line < 0 || line >= lines) {
                return;
            }
            for (int i = line; i + 1 < lines; i++) {
                kinds[i] = kinds[i + 1];
                weeks[i] = weeks[i + 1];
            }
            lines--;
        }

        int kindAt(int line) {
            return line >= 0 && line < lines ? kinds[line] : NONE;
        }

        int weekAt(int line) {
            return line >= 0 && line < lines ? weeks[line] : NONE;
        }

        int lastKind() {
            return kindAt(lines - 1);
        }

        int kindSet() {
            int bits = 0;
            for (int i = 0; i < lines; i++) {
                bits |= 1 << kinds[i];
            }
            return bits;
        }

        boolean holds(int kind) {
            return (kindSet() >> kind & 1) == 1;
        }

        /** Whether a LINE of the first KIND stands ahead of one of the second. */
        boolean binds(int first, int second) {
            boolean promised = false;
            for (int i = 0; i < lines; i++) {
                if (promised && kinds[i] == second) {
                    return true;
                }
                promised = promised || kinds[i] == first;
            }
            return false;
        }

        /** The first LINE in which both are unlike, or that one of both lacks; NONE, if they are alike. */
        int firstUnlike(Mail other) {
            int most = Math.max(lines, other.lines);
            for (int i = 0; i < most; i++) {
                if (kindAt(i) != other.kindAt(i)) {
                    return i;
                }
            }
            return NONE;
        }

        /** How many LINES from one on are as those of the other from another one on. */
        int alikeFrom(int line, Mail other, int otherLine) {
            int alike = 0;
            for (int i = 0; line + i < lines && otherLine + i < other.lines; i++) {
                if (kindAt(line + i) != other.kindAt(otherLine + i)) {
                    return alike;
                }
                alike++;
            }
            return alike;
        }

        int linesOf(int week) {
            int found = 0;
            for (int i = 0; i < lines; i++) {
                if (weeks[i] == week) {
                    found++;
                }
            }
            return found;
        }
    }

    /** All LETTERS, and what goes on with them by ACTS: what one that is undone brings back. */
    private static final class Bag {
        private final Mail[] mails = new Mail[MOST_LETTERS];
        private int size;
        private int week;
        private int seed = 1;
        private int came;

        Bag() {
            for (int i = 0; i < MOST_LETTERS; i++) {
                mails[i] = new Mail();
            }
        }

        void become(Bag other) {
            for (int i = 0; i < other.size && i < MOST_LETTERS; i++) {
                mails[i].become(other.mails[i]);
            }
            size = other.size;
            week = other.week;
            seed = other.seed;
            came = other.came;
        }

        void drop(int letter) {
            if (letter < 0 || letter >= size) {
                return;
            }
            for (int i = letter; i + 1 < size; i++) {
                mails[i].become(mails[i + 1]);
            }
            size--;
        }

        /** One WEEK more, with its draws: how many LINES came. */
        int passWeek(Law law, int slip) {
            int grown = 0;
            for (int i = 0; i < size; i++) {
                grown += growOne(mails[i], law, slip);
                if (mails[i].hot) {
                    grown += growOne(mails[i], law, slip);
                }
            }
            week = Math.min(week + 1, LAST_WEEK);
            return grown;
        }

        private int growOne(Mail mail, Law law, int slip) {
            int kind = law.growth(mail, week);
            if (kind == NONE) {
                return 0;
            }
            if (draw() % 100 < slip) {
                kind = draw() % KINDS;
            }
            mail.add(kind, week);
            return 1;
        }

        private int draw() {
            seed = 1103515245 * seed + 12345;
            return seed >>> 16 & 32767;
        }

        boolean areSealed(int one, int other) {
            return (openSet() >> one & 1) == 0 && (openSet() >> other & 1) == 0;
        }

        int linesInAll() {
            int lines = 0;
            for (int i = 0; i < size; i++) {
                lines += mails[i].lines;
            }
            return lines;
        }

        int openSet() {
            int bits = 0;
            for (int i = 0; i < size; i++) {
                bits |= mails[i].open ? 1 << i : 0;
            }
            return bits;
        }

        int hotSet() {
            int bits = 0;
            for (int i = 0; i < size; i++) {
                bits |= mails[i].hot ? 1 << i : 0;
            }
            return bits;
        }
    }

    /** All that THE IMAGE keeps: the LETTERS, THE LAW, and what else texts tell. */
    private static final class World {
        private final Bag bag = new Bag();
        private final Law law = new Law();
        private final int[] words = new int[KINDS];
        private final int[] firsts = new int[MOST_PROMISES];
        private final int[] seconds = new int[MOST_PROMISES];
        private int promises;
        private int slip;
        private int texts;

        World() {
            for (int kind = 0; kind < KINDS; kind++) {
                words[kind] = FIRST_WORDS;
            }
        }

        void become(World other) {
            bag.become(other.bag);
            law.become(other.law);
            System.arraycopy(other.words, 0, words, 0, KINDS);
            System.arraycopy(other.firsts, 0, firsts, 0, MOST_PROMISES);
            System.arraycopy(other.seconds, 0, seconds, 0, MOST_PROMISES);
            promises = other.promises;
            slip = other.slip;
            texts = other.texts;
        }

        void setWords(int kind, int n) {
            if (kind >= 0 && kind < KINDS) {
                words[kind] = n;
            }
        }

        void addPromise(int first, int second) {
            if (promises < MOST_PROMISES) {
                firsts[promises] = first;
                seconds[promises] = second;
                promises++;
            }
        }

        int promised(int promise, boolean second) {
            if (promise < 0 || promise >= promises) {
                return NONE;
            }
            return second ? seconds[promise] : firsts[promise];
        }

        int wordsFor(int kind) {
            return kind >= 0 && kind < KINDS ? words[kind] : 0;
        }

        int wordsIn(Mail mail) {
            int sum = 0;
            for (int i = 0; i < mail.lines; i++) {
                sum += wordsFor(mail.kinds[i]);
            }
            return sum;
        }

        /** The PROMISES by which a LETTER is BOUND, as bits. */
        int binding(Mail mail) {
            int bits = 0;
            for (int i = 0; i < promises; i++) {
                if (mail.binds(firsts[i], seconds[i])) {
                    bits |= 1 << i;
                }
            }
            return bits;
        }

        int postageFor(Mail mail) {
            return (wordsIn(mail) + 9) / 10 + 2 * Integer.bitCount(binding(mail));
        }
    }

    /** THE LAW: each LINE's condition as codes, what they join standing ahead of them. */
    private static final class Law {
        private final int[] froms = new int[MOST_LAW_LINES];
        private final int[] tos = new int[MOST_LAW_LINES];
        private final int[] ends = new int[MOST_LAW_LINES];
        private final int[] codes = new int[TAPE_ROOM];
        private final int[] stack = new int[TAPE_ROOM];
        private final int[] facts = new int[SENDER - HOT + 1];
        private int codeSize;
        private int size;
        private boolean told;

        void clear() {
            codeSize = 0;
            size = 0;
            told = false;
        }

        void become(Law other) {
            System.arraycopy(other.froms, 0, froms, 0, MOST_LAW_LINES);
            System.arraycopy(other.tos, 0, tos, 0, MOST_LAW_LINES);
            System.arraycopy(other.ends, 0, ends, 0, MOST_LAW_LINES);
            System.arraycopy(other.codes, 0, codes, 0, TAPE_ROOM);
            codeSize = other.codeSize;
            size = other.size;
            told = other.told;
        }

        void addCode(int code) {
            if (codeSize < TAPE_ROOM) {
                codes[codeSize] = code;
                codeSize++;
            }
        }

        /** The codes that came since the LINE before are this one's condition. */
        void addLine(int from, int to) {
            if (size < MOST_LAW_LINES) {
                froms[size] = from;
                tos[size] = to;
                ends[size] = codeSize;
                size++;
            }
        }

        boolean leads(int from, int to) {
            for (int i = 0; i < size; i++) {
                if (froms[i] == from && tos[i] == to) {
                    return true;
                }
            }
            return false;
        }

        /** The KIND by which a LETTER GROWS in a WEEK, nothing going astray; NONE, if it does not. */
        int growth(Mail mail, int week) {
            return mail.open || mail.lines >= MOST_LINES ? NONE : follows(mail, mail.lines, week);
        }

        int astrayIn(Mail mail) {
            int bits = 0;
            for (int line = 1; line < mail.lines; line++) {
                if (follows(mail, line, mail.weekAt(line)) != mail.kindAt(line)) {
                    bits |= 1 << line;
                }
            }
            return bits;
        }

        /** What FOLLOWS the first LINES of a LETTER in a WEEK; NONE, if nothing does. */
        private int follows(Mail mail, int lines, int week) {
            int last = mail.kindAt(lines - 1);
            learnFacts(mail, lines, week);
            for (int i = 0; i < size; i++) {
                if (froms[i] == last && isMet(i)) {
                    return tos[i];
                }
            }
            return NONE;
        }

        private void learnFacts(Mail mail, int lines, int week) {
            int season = seasonOf(week);
            facts[HOT - HOT] = mail.hot ? 1 : 0;
            facts[WINTER - HOT] = season == WINTER_SEASON ? 1 : 0;
            facts[LENGTH - HOT] = lines;
            facts[TEMPER - HOT] = mail.temper;
            facts[BEFORE - HOT] = lines < 2 ? KINDS : mail.kindAt(lines - 2);
            facts[WEEK - HOT] = week;
            facts[SEASON - HOT] = season;
            facts[SENDER - HOT] = mail.sender;
        }

        /** Whether a LINE's condition holds by the facts; without one it does. */
        private boolean isMet(int line) {
            int top = 0;
            int begin = line > 0 ? ends[line - 1] : 0;
            for (int i = begin; i < ends[line] && i < codeSize; i++) {
                int code = codes[i];
                if (code <= SENDER && top < TAPE_ROOM) {
                    stack[top] = code >= HOT ? facts[code - HOT] : code;
                    top++;
                } else if (code == NOT && top > 0) {
                    stack[top - 1] = 1 - stack[top - 1];
                } else if (top > 1) {
                    top--;
                    stack[top - 1] = join(code, stack[top - 1], stack[top]);
                }
            }
            return top == 0 || stack[top - 1] != 0;
        }

        private static int join(int code, int left, int right) {
            switch (code) {
                case PLUS:
                    return left + right;
                case LESS:
                    return left < right ? 1 : 0;
                case MORE:
                    return left > right ? 1 : 0;
                case AND:
                    return left & right;
                default:
                    return left | right;
            }
        }
    }

    /** A LETTER looked at AHEAD, nothing going astray. */
    private static final class Sight {
        private final Mail mail = new Mail();
        private int week;
        private int fork = NONE;

        void look(Mail from, int fromWeek) {
            mail.become(from);
            week = fromWeek;
            fork = NONE;
        }

        /** Looks at a row of one KIND, or two, by its number in SEND. */
        void lookAtRow(int row, int sender, int temper, int fromWeek) {
            mail.begin(sender, temper);
            if (row >= KINDS) {
                mail.add(row / KINDS - 1, fromWeek);
            }
            mail.add(row % KINDS, fromWeek);
            week = fromWeek;
            fork = NONE;
        }

        void go(Law law, int n) {
            for (int i = 0; i < n; i++) {
                goWeek(law);
            }
        }

        /** One WEEK on; the LINE that comes next is of the KIND fork, if that is one. */
        void goWeek(Law law) {
            int turns = mail.hot ? 2 : 1;
            for (int i = 0; i < turns; i++) {
                int kind = law.growth(mail, week);
                if (kind != NONE) {
                    mail.add(fork == NONE ? kind : fork, week);
                    fork = NONE;
                }
            }
            week = Math.min(week + 1, LAST_WEEK);
        }
    }

    /** The latest ACTS that can be UNDONE: all as it was ahead of each. */
    private static final class Memory {
        private final Bag[] acts = new Bag[MOST_ACTS];
        private int next;
        private int size;

        Memory() {
            for (int i = 0; i < MOST_ACTS; i++) {
                acts[i] = new Bag();
            }
        }

        void remember(Bag bag) {
            acts[next].become(bag);
            next = (next + 1) % MOST_ACTS;
            size = Math.min(size + 1, MOST_ACTS);
        }

        boolean takeBack(Bag bag) {
            if (size == 0) {
                return false;
            }
            next = (next + MOST_ACTS - 1) % MOST_ACTS;
            size--;
            bag.become(acts[next]);
            return true;
        }

        void forget() {
            size = 0;
        }
    }

    /** Sets of LETTERS on SHELVES, as bits. */
    private static final class Shelving {
        private final int[] loads = new int[1 << MOST_LETTERS];
        private final int[] fewest = new int[1 << MOST_LETTERS];
        private int letters;

        void clear() {
            letters = 0;
        }

        void add(int lines) {
            if (letters >= MOST_LETTERS) {
                return;
            }
            int sets = 1 << letters;
            for (int set = 0; set < sets; set++) {
                loads[sets + set] = loads[set] + lines;
            }
            letters++;
        }

        int mostOnOne(int room) {
            int most = 0;
            for (int set = 0; set < 1 << letters; set++) {
                if (loads[set] <= room) {
                    most = Math.max(most, Integer.bitCount(set));
                }
            }
            return most;
        }

        int fewestShelves(int room) {
            int sets = 1 << letters;
            for (int set = 1; set < sets; set++) {
                fewest[set] = NONE;
                // Going down through the parts of the set that fit on a last shelf.
                for (int shelf = set; shelf > 0; shelf = shelf - 1 & set) {
                    int rest = fewest[set - shelf];
                    boolean fits = loads[shelf] <= room && rest != NONE;
                    if (fits && (fewest[set] == NONE || rest + 1 < fewest[set])) {
                        fewest[set] = rest + 1;
                    }
                }
            }
            return fewest[sets - 1];
        }
    }

    /** The things that stand in a text, one behind another, with where each begins. */
    private static final class Tokens {
        private final int[] text = new int[TAPE_ROOM];
        private final int[] codes = new int[TAPE_ROOM + 1];
        private final int[] begins = new int[TAPE_ROOM + 1];
        private final int[] lengths = new int[TAPE_ROOM + 1];
        private int textSize;
        private int size;
        private int at;
        private int wrong = NONE;

        void scan(int[] tape, int tapeSize) {
            textSize = Math.min(tapeSize, TAPE_ROOM);
            System.arraycopy(tape, 0, text, 0, textSize);
            size = 0;
            at = 0;
            wrong = NONE;
            int begin = 0;
            for (int turn = 0; turn <= TAPE_ROOM && begin < textSize; turn++) {
                int end = endOf(begin);
                if (text[begin] != ' ') {
                    addToken(begin, end - begin);
                }
                begin = end;
            }
            codes[size] = END_OF_TEXT;
            begins[size] = textSize;
            lengths[size] = 0;
        }

        private void addToken(int begin, int length) {
            if (size < TAPE_ROOM) {
                codes[size] = codeOf(begin, length);
                begins[size] = begin;
                lengths[size] = length;
                size++;
            }
        }

        /** Where a thing ends: words and numbers go on as long as they can, all else is one byte. */
        private int endOf(int begin) {
            int sort = sortOf(text[begin]);
            int end = begin + 1;
            while (sort != 0 && end < textSize && sortOf(text[end]) == sort) {
                end++;
            }
            return end;
        }

        private static int sortOf(int sign) {
            if (sign >= 'a' && sign <= 'z') {
                return 1;
            }
            return sign >= '0' && sign <= '9' ? 2 : 0;
        }

        private int codeOf(int begin, int length) {
            int sort = sortOf(text[begin]);
            if (sort == 0) {
                return SIGN + text[begin];
            }
            return sort == 1 ? wordCode(begin, length) : numberCode(begin, length);
        }

        private int numberCode(int begin, int length) {
            if (length > 3) {
                return LONG_NUMBER;
            }
            int number = 0;
            for (int i = begin; i < begin + length && i < textSize; i++) {
                number = 10 * number + text[i] - '0';
            }
            return number;
        }

        private int wordCode(int begin, int length) {
            int code = HOT;
            int from = 0;
            for (int i = 0; i <= KNOWN_WORDS.length(); i++) {
                if (i == KNOWN_WORDS.length() || KNOWN_WORDS.charAt(i) == ' ') {
                    if (i - from == length && isKnown(from, begin, length)) {
                        return code;
                    }
                    from = i + 1;
                    code++;
                }
            }
            return OTHER_WORD;
        }

        private boolean isKnown(int from, int begin, int length) {
            for (int i = 0; i < length && from + i < KNOWN_WORDS.length() && begin + i < textSize; i++) {
                if (KNOWN_WORDS.charAt(from + i) != text[begin + i]) {
                    return false;
                }
            }
            return true;
        }

        int code() {
            return codes[at];
        }

        void step() {
            if (at < size) {
                at++;
            }
        }

        boolean fail() {
            wrong = begins[at];
            return false;
        }

        /** Steps over what must stand here, or the text is wrong. */
        boolean pass(int code) {
            if (at >= size || codes[at] != code) {
                wrong = begins[at];
                return false;
            }
            at++;
            return true;
        }

        /** Steps over a number within bounds; NONE, and the text is wrong, if none is here. */
        int takeNumber(int least, int most) {
            int number = codes[at];
            if (number > LAST_NUMBER || number < least || number > most) {
                fail();
                return NONE;
            }
            step();
            return number;
        }

        /** Steps over one KIND; NONE, and the text is wrong, if none is here. */
        int takeKind() {
            if (countKinds() != 1) {
                fail();
                return NONE;
            }
            int kind = kindIn(0);
            step();
            return kind;
        }

        /** How many KINDS stand here one behind another; 0, if what is here is no row of KINDS. */
        int countKinds() {
            int length = lengths[at];
            for (int i = 0; i < length; i++) {
                if (kindIn(i) == NONE) {
                    return 0;
                }
            }
            return length <= MOST_LINES ? length : 0;
        }

        int kindIn(int i) {
            int place = begins[at] + i;
            int kind = place >= 0 && place < textSize ? text[place] - 'a' : NONE;
            return kind >= 0 && kind < KINDS ? kind : NONE;
        }
    }

    /** Reads texts: LINE { ; LINE }. */
    private abstract static class TextReader {
        final Tokens tokens = new Tokens();

        abstract boolean readLine();

        /** Whether a text is right; where it is wrong, the tokens tell. */
        boolean readText(int[] text, int size, int mostLines) {
            tokens.scan(text, size);
            if (tokens.code() == END_OF_TEXT) {
                return true;
            }
            for (int lines = 0; lines < mostLines; lines++) {
                if (!readLine()) {
                    return false;
                }
                if (tokens.code() == END_OF_TEXT) {
                    return true;
                }
                if (!tokens.pass(SEMICOLON)) {
                    return false;
                }
            }
            return tokens.fail();
        }
    }

    /** Reads a text of THE POST into a draft. */
    private static final class PostReader extends TextReader {
        private final World draft = new World();

        boolean readLine() {
            switch (tokens.code()) {
                case LETTER:
                    return readLetter();
                case WORDS:
                    return readWords();
                case PROMISE:
                    return readPromise();
                case SLIP:
                    return readSlip();
                case HOT:
                    return readState(true);
                case OPEN:
                    return readState(false);
                case WEEK:
                    return readWeek();
                default:
                    return tokens.fail();
            }
        }

        private boolean readLetter() {
            if (draft.bag.size >= MOST_LETTERS) {
                return tokens.fail();
            }
            tokens.step();
            int sender = tokens.pass(FROM) ? tokens.takeNumber(0, TEN - 1) : NONE;
            if (sender == NONE) {
                return false;
            }
            int temper = tokens.pass(TEMPER) ? tokens.takeNumber(0, TEN - 1) : NONE;
            if (temper == NONE) {
                return false;
            }
            int lines = tokens.countKinds();
            if (lines == 0) {
                return tokens.fail();
            }
            Mail mail = draft.bag.mails[draft.bag.size];
            mail.begin(sender, temper);
            for (int i = 0; i < lines; i++) {
                mail.add(tokens.kindIn(i), draft.bag.week);
            }
            draft.bag.size++;
            tokens.step();
            return true;
        }

        private boolean readWords() {
            tokens.step();
            int kind = tokens.takeKind();
            int n = kind == NONE ? NONE : tokens.takeNumber(1, 9);
            if (n == NONE) {
                return false;
            }
            draft.setWords(kind, n);
            return true;
        }

        private boolean readPromise() {
            if (draft.promises >= MOST_PROMISES) {
                return tokens.fail();
            }
            tokens.step();
            int first = tokens.takeKind();
            int second = first == NONE ? NONE : tokens.takeKind();
            if (second == NONE) {
                return false;
            }
            draft.addPromise(first, second);
            return true;
        }

        private boolean readSlip() {
            tokens.step();
            int n = tokens.takeNumber(0, MOST_SLIP);
            if (n == NONE) {
                return false;
            }
            draft.slip = n;
            return true;
        }

        private boolean readState(boolean isHot) {
            tokens.step();
            int letter = tokens.takeNumber(0, draft.bag.size - 1);
            if (letter < 0 || letter >= draft.bag.size) {
                return false;
            }
            if (isHot) {
                draft.bag.mails[letter].hot = true;
            } else {
                draft.bag.mails[letter].open = true;
            }
            return true;
        }

        private boolean readWeek() {
            tokens.step();
            int n = tokens.takeNumber(draft.bag.week, LAST_TOLD_WEEK);
            if (n == NONE) {
                return false;
            }
            draft.bag.week = n;
            return true;
        }
    }

    /** Reads THE LAW into a draft. */
    private static final class LawReader extends TextReader {
        private final Law draft = new Law();

        boolean readLine() {
            int from = tokens.takeKind();
            if (from == NONE || !tokens.pass(TO)) {
                return false;
            }
            int to = tokens.takeKind();
            if (to == NONE) {
                return false;
            }
            if (tokens.code() == IF) {
                tokens.step();
                if (!readEither(0)) {
                    return false;
                }
            }
            draft.addLine(from, to);
            return true;
        }

        /** Reads ALL { or ALL }, so many ( and not deep. */
        private boolean readEither(int deep) {
            for (int parts = 0; parts < TAPE_ROOM; parts++) {
                if (!readAll(deep)) {
                    return false;
                }
                if (parts > 0) {
                    draft.addCode(OR);
                }
                if (tokens.code() != OR) {
                    return true;
                }
                tokens.step();
            }
            return tokens.fail();
        }

        /** Reads ATOM { and ATOM }. */
        private boolean readAll(int deep) {
            for (int parts = 0; parts < TAPE_ROOM; parts++) {
                if (!readAtom(deep)) {
                    return false;
                }
                if (parts > 0) {
                    draft.addCode(AND);
                }
                if (tokens.code() != AND) {
                    return true;
                }
                tokens.step();
            }
            return tokens.fail();
        }

        private boolean readAtom(int deep) {
            int code = tokens.code();
            if (code == NOT || code == OPENING) {
                return deep < MOST_DEEP ? readInner(code, deep + 1) : tokens.fail();
            }
            if (code == HOT || code == WINTER) {
                draft.addCode(code);
                tokens.step();
                return true;
            }
            if (!readSum()) {
                return false;
            }
            int sign = tokens.code();
            if (sign != LESS && sign != MORE) {
                return tokens.fail();
            }
            tokens.step();
            if (!readSum()) {
                return false;
            }
            draft.addCode(sign);
            return true;
        }

        /** Reads not ATOM, or ( C ). */
        private boolean readInner(int code, int deep) {
            tokens.step();
            if (code == OPENING) {
                return readEither(deep) && tokens.pass(CLOSING);
            }
            if (!readAtom(deep)) {
                return false;
            }
            draft.addCode(NOT);
            return true;
        }

        private boolean readSum() {
            for (int parts = 0; parts < TAPE_ROOM; parts++) {
                int code = tokens.code();
                if (code > LAST_NUMBER && code < LENGTH || code > SENDER) {
                    return tokens.fail();
                }
                draft.addCode(code);
                if (parts > 0) {
                    draft.addCode(PLUS);
                }
                tokens.step();
                if (tokens.code() != PLUS) {
                    return true;
                }
                tokens.step();
            }
            return tokens.fail();
        }
    }
}
