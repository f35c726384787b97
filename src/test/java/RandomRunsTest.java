import java.lang.reflect.InvocationTargetException;
import java.lang.reflect.Method;
import java.nio.charset.StandardCharsets;
import java.util.ArrayList;
import java.util.List;
import java.util.Map;
import java.util.Random;
import java.util.TreeMap;

/**
 * Runs of calls drawn from fixed seeds, each asked of GrownPost and of Model: answers, and the very
 * classes of exceptions, must be alike. An argument: how many runs (500 without).
 */
public final class RandomRunsTest {
    /**
     * What a call's arguments are: L a LETTER, K a KIND, Z a KIND or NONE, A WEEKS AHEAD, D a SENDER or
     * TEMPER, P a PROMISE, B true or false, W a small number, Y a LETTER or NONE, S shelves, N WEEKS.
     */
    private static final String[] CALLS = {
        "end W", "fault", "letter L W", "line L W B", "words K", "promise P B", "season N", "open L B", "copy L", "prune L W",
        "cut L W", "heat L B", "burn L", "weeks N", "ahead L A W", "says L K B", "stops L", "stays L K", "send D D K A B",
        "cuts L K A B", "out L K A B", "astray L", "written L", "senseless L", "meet L L B", "part L L", "drawer", "bound L A",
        "when L P", "soonest P", "spies S", "guess L", "postage L A B", "forks L A", "ripe L B", "has L", "echo L", "common L L",
        "author L B", "shelves S A B", "tempers L A Z", "trial A Y", "span A B", "latest N", "seed N", "undo", "image", "back",
        "count W", "feed N N N N N", "open L B", "heat L B", "weeks W", "weeks W", "undo", "copy L", "says L K B", "stops L",
        "author L B", "astray L", "send D D K A B", "tempers L A Z", "forks L A", "line L W B",
    };
    /** An object is used for at most 512 calls; a text and what is looked at behind it takes up to 40. */
    private static final int CALLS_OF_A_RUN = 512 - 40;
    private static final int[] EDGES = {-1, -2, 0, 12, 8, 9, 10, 24, 40, 41, 60, 61, 99, 100, Integer.MAX_VALUE, Integer.MIN_VALUE};

    private final Random random;
    private final GrownPost post = new GrownPost();
    private final Model model = new Model();
    private final List<String> run = new ArrayList<>();
    private final Map<String, Method[]> methods = new TreeMap<>();
    private int letters = 0;
    private int asked = 0;

    private RandomRunsTest(long seed) {
        random = new Random(seed);
        for (Method m : GrownPost.class.getDeclaredMethods()) {
            if (java.lang.reflect.Modifier.isPublic(m.getModifiers())) {
                try {
                    methods.put(m.getName(), new Method[] {m, Model.class.getDeclaredMethod(m.getName(), m.getParameterTypes())});
                } catch (NoSuchMethodException e) {
                    throw new IllegalStateException(e);
                }
            }
        }
    }

    public static void main(String[] args) {
        int runs = args.length > 0 ? Integer.parseInt(args[0]) : 500;
        int wrong = 0;
        Map<String, int[]> told = new TreeMap<>();
        for (int i = 0; i < runs && wrong < 5; i++) {
            RandomRunsTest test = new RandomRunsTest(i);
            if (!test.run(told)) {
                wrong++;
                System.out.println("RandomRunsTest, seed " + i + ":");
                List<String> calls = test.run;
                for (String call : calls.subList(Math.max(0, calls.size() - 60), calls.size())) {
                    System.out.println("  " + call);
                }
            }
        }
        if (args.length > 1) {
            told.forEach((name, n) -> System.out.println(name + ": " + n[0] + " answers, " + n[1] + " exceptions"));
        }
        System.out.println("RandomRunsTest: " + runs + " runs, " + wrong + " wrong");
        if (wrong != 0) {
            System.exit(1);
        }
    }

    private boolean run(Map<String, int[]> told) {
        while (asked <= CALLS_OF_A_RUN) {
            int sort = random.nextInt(40);
            boolean same;
            if (sort < 2 || asked == 0) {
                same = text("post", postText(), told);
            } else if (sort < 4) {
                same = text("law", lawText(), told);
            } else if (sort < 6) {
                same = text("write", row(signOrNumber(false), random.nextInt(10) == 0 ? 23 + random.nextInt(4) : random.nextInt(6)), told);
            } else {
                same = call(CALLS[random.nextInt(CALLS.length)].split(" "), told);
            }
            if (!same) {
                return false;
            }
        }
        return true;
    }

    private boolean call(String[] form, Map<String, int[]> told) {
        Object[] args = new Object[form.length - 1];
        for (int i = 0; i < args.length; i++) {
            args[i] = argument(form[i + 1].charAt(0));
        }
        if (form[0].equals("burn") && random.nextInt(3) > 0 || form[0].equals("back") && random.nextInt(3) > 0) {
            return true;
        }
        return ask(form[0], args, told);
    }

    private Object argument(char sort) {
        if (sort == 'B') {
            return random.nextBoolean();
        }
        if (random.nextInt(25) == 0) {
            return EDGES[random.nextInt(EDGES.length)];
        }
        switch (sort) {
            case 'L':
                return random.nextInt(Math.max(1, letters));
            case 'Y':
                return random.nextInt(letters + 1) - 1;
            case 'K':
                return random.nextInt(random.nextBoolean() ? 4 : 12);
            case 'Z':
                return random.nextInt(13) - 1;
            case 'A':
                return random.nextInt(random.nextBoolean() ? 6 : 42);
            case 'D':
                return random.nextInt(10);
            case 'P':
                return random.nextInt(4);
            case 'S':
                return 1 + random.nextInt(90);
            case 'W':
                return random.nextInt(random.nextBoolean() ? 4 : 12);
            default:
                return random.nextInt(random.nextBoolean() ? 14 : 61);
        }
    }

    private boolean ask(String name, Object[] args, Map<String, int[]> told) {
        asked++;
        Object got = answer(methods.get(name)[0], post, args);
        Object want = answer(methods.get(name)[1], model, args);
        letters = model.count(0);
        StringBuilder call = new StringBuilder(name).append('(');
        for (int i = 0; i < args.length; i++) {
            call.append(i > 0 ? ", " : "").append(args[i]);
        }
        run.add(call + ") answered " + got + ", due is " + want);
        told.computeIfAbsent(name, k -> new int[2])[want instanceof Class ? 1 : 0]++;
        return got == null ? want == null : got.equals(want);
    }

    private static Object answer(Method method, Object of, Object[] args) {
        try {
            return method.invoke(of, args);
        } catch (InvocationTargetException e) {
            return e.getCause().getClass();
        } catch (IllegalAccessException e) {
            throw new IllegalStateException(e);
        }
    }

    /** Feeds a text and reads it, then looks at fault() and at all LETTERS. */
    private boolean text(String name, String text, Map<String, int[]> told) {
        byte[] bytes = text.getBytes(StandardCharsets.ISO_8859_1);
        run.add("'" + text + "'");
        boolean same = ask("end", new Object[] {0}, told);
        for (int i = 0; i < bytes.length && same; i += 20) {
            Object[] numbers = new Object[5];
            for (int j = 0; j < 5; j++) {
                int n = 0;
                for (int k = 0; k < 4; k++) {
                    int at = i + 4 * j + k;
                    n = n << 8 | (at < bytes.length ? bytes[at] & 255 : 0);
                }
                numbers[j] = n;
            }
            same = ask("feed", numbers, told);
        }
        same = same && ask("end", new Object[] {bytes.length}, told);
        Object[] args = name.equals("write") ? new Object[] {argument('D'), argument('D')} : new Object[0];
        same = same && ask(name, args, told) && ask("fault", new Object[0], told);
        for (int letter = 0; letter < letters; letter++) {
            same = same && ask("letter", new Object[] {letter, 7}, told) && ask("has", new Object[] {letter}, told);
        }
        return same;
    }

    // ---- texts

    /** What the first KIND is in a row: now and then a sign where a number is due, or a number for a sign. */
    private int signOrNumber(boolean sign) {
        return sign == (random.nextInt(8) > 0) ? 'a' : 0;
    }

    private String row(int base, int length) {
        StringBuilder row = new StringBuilder();
        int kinds = random.nextInt(30) == 0 ? 13 : random.nextBoolean() ? 3 : 12;
        for (int i = 0; i < length; i++) {
            row.append((char) (base + random.nextInt(kinds)));
        }
        return row.toString();
    }

    private char kind() {
        return (char) ('a' + random.nextInt(random.nextInt(60) == 0 ? 14 : random.nextBoolean() ? 3 : 12));
    }

    private int below(int n) {
        return random.nextInt(random.nextInt(20) == 0 ? n + 3 : n);
    }

    private String postText() {
        List<String> lines = new ArrayList<>();
        int n = random.nextInt(25) == 0 ? 13 + random.nextInt(3) : random.nextInt(6);
        for (int i = 0; i < n; i++) {
            lines.add(postLine());
        }
        return spoilt(String.join(random.nextBoolean() ? ";" : " ; ", lines));
    }

    private String postLine() {
        switch (random.nextInt(9)) {
            case 0:
            case 1:
            case 2: {
                String kinds = row(signOrNumber(true), 1 + random.nextInt(random.nextInt(8) == 0 ? 25 : 5));
                return "letter from " + below(10) + " temper " + below(10) + " " + kinds;
            }
            case 3:
                return "words " + kind() + " " + (1 + below(9));
            case 4:
                return "promise " + kind() + " " + kind();
            case 5:
                return "slip " + (random.nextBoolean() ? 0 : below(101));
            case 6:
                return "hot " + below(Math.max(1, letters));
            case 7:
                return random.nextInt(3) > 0 ? "promise " + kind() + " " + kind() : "open " + below(Math.max(1, letters));
            default:
                return "week " + (model.count(4) + below(40));
        }
    }

    private String lawText() {
        List<String> lines = new ArrayList<>();
        int n = random.nextInt(25) == 0 ? 11 + random.nextInt(3) : 1 + random.nextInt(11);
        for (int i = 0; i < n; i++) {
            lines.add(kind() + " to " + kind() + (random.nextInt(3) > 0 ? " if " + condition(random.nextInt(20) == 0 ? 8 : 2) : ""));
        }
        return spoilt(String.join(random.nextBoolean() ? ";" : " ;  ", lines));
    }

    private String condition(int deep) {
        StringBuilder c = new StringBuilder(atom(deep));
        while (random.nextInt(3) == 0) {
            c.append(random.nextBoolean() ? " and " : " or ").append(atom(deep));
        }
        return c.toString();
    }

    private String atom(int deep) {
        switch (random.nextInt(deep > 0 ? 8 : 6)) {
            case 0:
                return "hot";
            case 1:
                return "winter";
            case 6:
                return "not " + atom(deep - 1);
            case 7:
                return "(" + condition(deep - 1) + ")";
            default:
                return sum() + (random.nextBoolean() ? " < " : ">") + sum();
        }
    }

    private String sum() {
        StringBuilder s = new StringBuilder(part());
        while (random.nextInt(5) == 0) {
            s.append(" + ").append(part());
        }
        return s.toString();
    }

    private String part() {
        String[] parts = {"length", "temper", "before", "week", "season", "sender"};
        int n = random.nextInt(12);
        return n < parts.length ? parts[n] : String.valueOf(random.nextInt(random.nextInt(10) == 0 ? 1100 : 14));
    }

    /** Now and then a text with a byte more, less or other, and cut to what the TAPE holds. */
    private String spoilt(String text) {
        StringBuilder s = new StringBuilder(text);
        if (random.nextInt(6) == 0 && s.length() > 0) {
            int at = random.nextInt(s.length());
            String signs = " ;()+<>abm09zZ=\u0000\u00ff";
            char sign = signs.charAt(random.nextInt(signs.length()));
            switch (random.nextInt(4)) {
                case 0:
                    s.deleteCharAt(at);
                    break;
                case 1:
                    s.insert(at, sign);
                    break;
                case 2:
                    s.setCharAt(at, sign);
                    break;
                default:
                    s.setLength(at);
            }
        }
        if (s.length() > 400) {
            s.setLength(400);
        }
        return s.toString();
    }
}
