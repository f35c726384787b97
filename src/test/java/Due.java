import java.nio.charset.StandardCharsets;

/** What the tests share: answers that are due, and texts that are fed. */
final class Due {
    private final String name;
    private String part = "";
    private int asked;
    private int wrong;

    Due(String name) {
        this.name = name;
    }

    /** A call whose exceptions are looked at. */
    interface Call {
        void run();
    }

    /** What the answers from now on belong to. */
    void begin(String part) {
        this.part = part.isEmpty() ? "" : part + ": ";
    }

    /** A test was cut off by what a call threw. */
    void cutOff(RuntimeException e) {
        asked++;
        tell("was cut off by " + e);
    }

    void is(String call, long got, long want) {
        asked++;
        if (got != want) {
            tell(call + " answered " + got + ", due is " + want);
        }
    }

    void is(String call, boolean got, boolean want) {
        is(call, got ? 1 : 0, want ? 1 : 0);
    }

    /** The call must throw just this class, by a throw of the program's own. */
    void fails(String call, Class<? extends RuntimeException> want, Call run) {
        asked++;
        try {
            run.run();
            tell(call + " threw nothing, due is " + want.getSimpleName());
        } catch (RuntimeException e) {
            if (e.getClass() != want) {
                tell(call + " threw " + e.getClass().getSimpleName() + ", due is " + want.getSimpleName());
            }
        }
    }

    void noLetter(String call, Call run) {
        fails(call, IndexOutOfBoundsException.class, run);
    }

    void noNumber(String call, Call run) {
        fails(call, IllegalArgumentException.class, run);
    }

    private void tell(String text) {
        wrong++;
        System.out.println(name + ": " + part + text);
    }

    /** Ends the test: exit code 1, if an answer was wrong. */
    void close() {
        System.out.println(name + ": " + asked + " answers, " + wrong + " wrong");
        if (wrong != 0) {
            System.exit(1);
        }
    }

    /** Puts bytes on an empty TAPE. */
    static void put(GrownPost x, byte[] bytes) {
        for (int i = 0; i < bytes.length; i += 20) {
            int[] numbers = new int[5];
            for (int j = 0; j < 20; j++) {
                int b = i + j < bytes.length ? bytes[i + j] & 255 : 0;
                numbers[j / 4] = numbers[j / 4] << 8 | b;
            }
            x.feed(numbers[0], numbers[1], numbers[2], numbers[3], numbers[4]);
        }
        x.end(bytes.length);
    }

    static void put(GrownPost x, String text) {
        put(x, text.getBytes(StandardCharsets.ISO_8859_1));
    }

    static int post(GrownPost x, String text) {
        put(x, text);
        return x.post();
    }

    static int law(GrownPost x, String text) {
        put(x, text);
        return x.law();
    }

    /** KINDS told as a to l, put on an empty TAPE as the numbers that write takes. */
    static void putKinds(GrownPost x, String kinds) {
        byte[] bytes = new byte[kinds.length()];
        for (int i = 0; i < bytes.length; i++) {
            bytes[i] = (byte) (kinds.charAt(i) - 'a');
        }
        put(x, bytes);
    }

    static int write(GrownPost x, String kinds, int sender, int temper) {
        putKinds(x, kinds);
        return x.write(sender, temper);
    }

    /** A new object with a text of THE POST and THE LAW. */
    static GrownPost world(String post, String law) {
        GrownPost x = new GrownPost();
        post(x, post);
        law(x, law);
        return x;
    }

    /** The KINDS of a LETTER's LINES, as a to l. */
    static String kinds(GrownPost x, int letter) {
        StringBuilder row = new StringBuilder();
        for (int i = 0; i < x.letter(letter, 0); i++) {
            row.append((char) ('a' + x.line(letter, i, false)));
        }
        return row.toString();
    }

    void lines(String call, GrownPost x, int letter, String want) {
        asked++;
        String got = kinds(x, letter);
        if (!got.equals(want)) {
            tell(call + ": LINES " + got + ", due is " + want);
        }
    }

    /** Texts of all that is to be seen must be alike. */
    void alike(String call, String got, String want) {
        asked++;
        if (!got.equals(want)) {
            tell(call + ": " + got + ", due is " + want);
        }
    }

    /** The text is wrong, at a byte. */
    void wrongPost(GrownPost x, String text, int at) {
        put(x, text);
        noNumber("post '" + text + "'", x::post);
        is("fault of '" + text + "'", x.fault(), at);
    }

    void rightPost(GrownPost x, String text, int texts) {
        put(x, text);
        is("post '" + text + "'", x.post(), texts);
        is("fault of '" + text + "'", x.fault(), -1);
    }

    void wrongLaw(GrownPost x, String text, int at) {
        put(x, text);
        noNumber("law '" + text + "'", x::law);
        is("fault of '" + text + "'", x.fault(), at);
    }

    void rightLaw(GrownPost x, String text, int lines) {
        put(x, text);
        is("law '" + text + "'", x.law(), lines);
        is("fault of '" + text + "'", x.fault(), -1);
    }
}
