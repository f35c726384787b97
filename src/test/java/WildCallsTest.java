import java.lang.reflect.InvocationTargetException;
import java.lang.reflect.Method;
import java.lang.reflect.Modifier;
import java.util.ArrayList;
import java.util.Comparator;
import java.util.List;
import java.util.Random;

/**
 * LANGUAGE.md 6 and 7: whatever a call is given, in whatever state, it ends, and throws nothing but what its own line
 * of the face names. Answers are not looked at here, so objects may grow old.
 */
public final class WildCallsTest {
    private static final int OBJECTS = 30;
    private static final int CALLS = 20000;
    private static final int[] NUMBERS = {Integer.MIN_VALUE, Integer.MIN_VALUE + 1, -2, -1, 0, 0, 0, 1, 1, 1, 2, 2, 3, 4, 5, 6, 7, 8,
        9, 10, 11, 12, 13, 23, 24, 25, 31, 32, 33, 39, 40, 41, 60, 61, 99, 100, 101, 400, 401, 9999, 10000, Integer.MAX_VALUE};
    private static final String[] TEXTS = {"", " ", "a to b;b to c;c to a", "a to a if not hot or week > season + 1;b to a if before < 12",
        "a to b if((((((hot))))))", "a to b if(((((((hot)))))))", "l to l if 999+999>week and sender < temper",
        "letter from 1 temper 2 abc", "letter from 9 temper 9 llllllllllllllllllllllll;hot 0;promise l l", "slip 100", "slip 0",
        "words a 9;words l 1", "promise a b;promise b a", "open 0;week 999", "week 7", "a to b if", "letter", "hot 7", "x"};

    public static void main(String[] args) throws IllegalAccessException {
        Due due = new Due("WildCallsTest");
        List<Method> face = new ArrayList<>();
        for (Method m : GrownPost.class.getDeclaredMethods()) {
            if (Modifier.isPublic(m.getModifiers())) {
                face.add(m);
            }
        }
        face.sort(Comparator.comparing(Method::getName));
        for (int i = 1; i <= OBJECTS; i++) {
            due.begin("object " + i);
            growOld(due, face, new Random(i));
        }
        due.close();
    }

    private static void growOld(Due due, List<Method> face, Random random) throws IllegalAccessException {
        GrownPost x = new GrownPost();
        for (int i = 0; i < CALLS; i++) {
            if (random.nextInt(8) == 0) {
                x.end(random.nextInt(4) == 0 ? 1 : 0);
                Due.put(x, TEXTS[random.nextInt(TEXTS.length)]);
            }
            Method m = face.get(random.nextInt(face.size()));
            Object[] given = new Object[m.getParameterCount()];
            for (int j = 0; j < given.length; j++) {
                given[j] = m.getParameterTypes()[j] == boolean.class ? (Object) random.nextBoolean() : (Object) number(random);
            }
            String call = m.getName() + List.of(given);
            due.is("call " + i + ", " + call + " threw what it may not", isAllowed(m, thrown(x, m, given)), true);
        }
    }

    private static int number(Random random) {
        int kind = random.nextInt(20);
        return kind == 0 ? random.nextInt() : kind < 10 ? random.nextInt(8) : NUMBERS[random.nextInt(NUMBERS.length)];
    }

    private static Throwable thrown(GrownPost x, Method m, Object[] given) throws IllegalAccessException {
        try {
            m.invoke(x, given);
            return null;
        } catch (InvocationTargetException e) {
            return e.getCause();
        }
    }

    /** Of the very class that the face names: what the machine throws is of a class below it. */
    private static boolean isAllowed(Method m, Throwable thrown) {
        return thrown == null || List.of(m.getExceptionTypes()).contains(thrown.getClass());
    }
}
