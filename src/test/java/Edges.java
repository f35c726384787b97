import java.util.function.Consumer;
import java.util.function.IntConsumer;
import java.util.function.Supplier;

/** Boundary cases of the document, each told by its promise and by the words that name it. */
abstract class Edges {
    static final int MIN = Integer.MIN_VALUE;
    static final int MAX = Integer.MAX_VALUE;
    static final int NONE = -1;
    /** Twenty-four LINES, the most that a LETTER has. */
    static final String FULL = "a".repeat(24);
    /** A b comes in WEEK 39: it is there by 40 WEEKS AHEAD of WEEK 0, the most, but not by 39. */
    static final String LATE = "a to b if week > 38";
    /** A b comes in WEEK 40: by 41 WEEKS AHEAD, which nothing looks at. */
    static final String TOO_LATE = "a to b if week > 39";
    private static final Class<IllegalArgumentException> NO_NUMBER = IllegalArgumentException.class;
    private static final Class<IndexOutOfBoundsException> NO_INDEX = IndexOutOfBoundsException.class;

    final Due due;
    private final int[] told;

    Edges(Due due, int[] told) {
        this.due = due;
        this.told = told;
    }

    abstract void tell();

    /** One boundary case: a test of its own. */
    final void edge(int promise, String boundary, Runnable test) {
        told[promise]++;
        due.begin("promise " + promise + ", " + boundary);
        try {
            test.run();
        } catch (RuntimeException e) {
            due.cutOff(e);
        }
        due.begin("");
    }

    final void is(String call, long got, long want) {
        due.is(call, got, want);
    }

    final void is(String call, boolean got, boolean want) {
        due.is(call, got, want);
    }

    // ---- arguments that are none

    /** Indexes just outside of 0 to size, and far outside, are none. */
    final void noIndex(String call, int size, IntConsumer run) {
        for (int i : new int[] {-1, size, MIN, MAX}) {
            due.fails(call + " of " + i, NO_INDEX, () -> run.accept(i));
        }
    }

    /** As noIndex, where NONE means something. */
    final void noIndexNorNone(String call, int size, IntConsumer run) {
        for (int i : new int[] {-2, size, MIN, MAX}) {
            due.fails(call + " of " + i, NO_INDEX, () -> run.accept(i));
        }
    }

    /** Numbers just below the least and above the most, and far off, are none. */
    final void noNumber(String call, int least, int most, IntConsumer run) {
        for (int i : new int[] {least - 1, most + 1, MIN, MAX}) {
            due.fails(call + " of " + i, NO_NUMBER, () -> run.accept(i));
        }
    }

    final void noIndexFirst(String call, Due.Call run) {
        due.fails(call, NO_INDEX, run);
    }

    final void noNumberFirst(String call, Due.Call run) {
        due.fails(call, NO_NUMBER, run);
    }

    final void noWhat(String call, int whats, IntConsumer run) {
        for (int i : new int[] {-1, whats, MIN, MAX}) {
            due.fails(call + " of " + i, java.util.NoSuchElementException.class, () -> run.accept(i));
        }
    }

    // ---- calls that are refused

    final void refusedIndex(Consumer<GrownPost> call) {
        refused(Edges::lived, NO_INDEX, call);
    }

    final void refusedNumber(Consumer<GrownPost> call) {
        refused(Edges::lived, NO_NUMBER, call);
    }

    /** A call that throws changes nothing: neither what is to be seen, nor ACTS, THE IMAGE or the TAPE. */
    final void refused(Supplier<GrownPost> make, Class<? extends RuntimeException> want, Consumer<GrownPost> call) {
        GrownPost x = make.get();
        GrownPost y = make.get();
        Due.putKinds(x, "bca");
        Due.putKinds(y, "bca");
        due.fails("the call", want, () -> call.accept(x));
        is("fault", x.fault(), y.fault());
        is("a longer TAPE", x.end(4), false);
        sameStays(x, y);
        y.burn(0);
        y.write(8, 9);
        x.burn(0);
        due.alike("the TAPE's number", "" + x.write(8, 9), "" + (y.count(0) - 1));
        due.alike("the TAPE", Due.kinds(x, x.count(0) - 1), "bca");
    }

    /** As refused, for a call that uses the TAPE up, whatever it throws. */
    final void refusedTape(Supplier<GrownPost> make, Class<? extends RuntimeException> want, byte[] tape,
            Consumer<GrownPost> call) {
        GrownPost x = make.get();
        GrownPost y = make.get();
        Due.put(x, tape);
        due.fails("the call", want, () -> call.accept(x));
        is("TAPE left", x.end(1), false);
        sameStays(x, y);
    }

    private void sameStays(GrownPost x, GrownPost y) {
        due.alike("at once", all(x), all(y));
        is("undo", x.undo(), y.undo());
        is("undo again", x.undo(), y.undo());
        due.alike("with acts undone", all(x), all(y));
        is("undo once more", x.undo(), y.undo());
        is("back", x.back(), y.back());
        due.alike("gone back", all(x), all(y));
    }

    /** All that can be seen without changing anything, but for the TAPE and fault(). */
    static String all(GrownPost x) {
        StringBuilder s = new StringBuilder();
        for (int what = 0; what <= 10; what++) {
            s.append(x.count(what)).append(' ');
        }
        for (int letter = 0; letter < x.count(0); letter++) {
            s.append("; ");
            for (int what = 1; what <= 7; what++) {
                s.append(x.letter(letter, what)).append(' ');
            }
            for (int line = 0; line < x.letter(letter, 0); line++) {
                s.append((char) ('a' + x.line(letter, line, false))).append(x.line(letter, line, true)).append(' ');
            }
        }
        for (int kind = 0; kind < 12; kind++) {
            s.append(x.words(kind));
        }
        for (int promise = 0; promise < x.count(1); promise++) {
            s.append(' ').append(x.promise(promise, false)).append('-').append(x.promise(promise, true));
        }
        int seed = x.seed(0);
        x.seed(seed);
        return s.append(" seed ").append(seed).toString();
    }

    // ---- posts to ask

    /** LETTERS that grow and slip, THE LAW, PROMISES, THE IMAGE, and two ACTS that can be undone. */
    static GrownPost lived() {
        GrownPost x = Due.world("words b 5;promise a b;promise b b;slip 30;week 37;letter from 3 temper 4 ab"
                + ";letter from 5 temper 6 c;hot 1;open 0", "a to b;b to a if length < 9;c to c");
        x.image();
        x.weeks(2);
        x.open(0, false);
        return x;
    }

    /** Eight LETTERS, the most there are, with THE IMAGE and two ACTS. */
    static GrownPost crowded() {
        GrownPost x = letters("a", "b", "c", "d", "e", "f", "g", "h");
        x.image();
        x.heat(1, true);
        x.open(2, true);
        return x;
    }

    /** A text of THE POST: a LETTER for each row, from 1 with temper 2. */
    static String lettersText(String... rows) {
        StringBuilder text = new StringBuilder();
        for (String row : rows) {
            text.append(text.length() == 0 ? "" : ";").append("letter from 1 temper 2 ").append(row);
        }
        return text.toString();
    }

    /** LETTERS, from 1 with temper 2, without THE LAW. */
    static GrownPost letters(String... rows) {
        GrownPost x = new GrownPost();
        Due.post(x, lettersText(rows));
        return x;
    }

    /** THE LAW, and LETTERS from 1 with temper 2. */
    static GrownPost lawful(String law, String... rows) {
        GrownPost x = letters(rows);
        Due.law(x, law);
        return x;
    }

    /** As lawful, in the last WEEK there is. */
    static GrownPost lastWeek(String law, String... rows) {
        GrownPost x = new GrownPost();
        Due.post(x, "week 999");
        for (int i = 0; i < 150; i++) {
            x.weeks(60);
        }
        Due.post(x, lettersText(rows));
        Due.law(x, law);
        return x;
    }

    /** The n-th DRAW (from 1 on) behind a SEED, by the document's words but without an int that goes round. */
    static int draw(int seed, int n) {
        return (int) (seedAfter(seed, n) >> 16 & 0x7fff);
    }

    /** SEED behind n DRAWS, as 32 bits. */
    static long seedAfter(int seed, int n) {
        long s = seed & 0xffffffffL;
        for (int i = 0; i < n; i++) {
            s = (1103515245L * s + 12345L) & 0xffffffffL;
        }
        return s;
    }
}
