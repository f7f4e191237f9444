import java.lang.reflect.InvocationTargetException;
import java.lang.reflect.Method;
import java.util.ArrayList;
import java.util.Arrays;
import java.util.HashMap;
import java.util.List;
import java.util.Map;
import java.util.Random;

/** Each call with arguments within, on and beyond all bounds, in all mixtures: the class and the Oracle answer alike. */
public final class EdgesTest {
    private static final int MOST_MIXTURES = 2500;
    private static final int MOST_CALLS = 512;
    private static final int LEAST = Integer.MIN_VALUE;
    private static final int MOST = Integer.MAX_VALUE;

    private static final Object[] YES_NO = {false, true};
    private static final Object[] PERSON = {LEAST, -1, 0, 1, 2, MOST};
    private static final Object[] ACT = {LEAST, -1, 0, 1, 2, 3, MOST};
    private static final Object[] WAY = {LEAST, -1, 0, 1, 2, 3, 4, 7, 8, MOST};
    private static final Object[] MOOD = {LEAST, -1, 0, 1, 2, 3, MOST};
    private static final Object[] NUMBER = {LEAST, -100, -99, 0, 7, 99, 100, MOST};
    private static final Object[] SMALL = {LEAST, -1, 0, 1, 2, 3, 4, 8, 9, 10, MOST};
    private static final Object[] WHAT = {LEAST, -1, 0, 1, 2, 3, 4, 5, 6, 11, 12, MOST};
    private static final Object[] ANY = {LEAST, -1, 0, 0x01000200, 0x20202020, MOST};
    private static final Object[] POINT = {LEAST, -100001, -100000, -99, 0, 1, 3, 99000, 100000, 100001, MOST};

    private static final Map<String, Object[][]> ARGUMENTS = new HashMap<>();

    static {
        put("feed", ANY, ANY, ANY, ANY, ANY);
        put("end", new Object[] {LEAST, -1, 0, 1, 19, 20, 21, 399, 400, 401, MOST});
        put("acts", SMALL);
        put("bring", ACT, ACT, NUMBER, NUMBER);
        put("tomorrow", SMALL, SMALL);
        put("way");
        put("fault");
        put("mood", WAY, MOOD, WHAT);
        put("worth", WAY, MOOD, WAY, MOOD, PERSON, YES_NO);
        put("hold", WAY, WAY);
        put("first", WAY, WAY);
        put("best", PERSON, WAY, MOOD);
        put("answer", PERSON, WAY, MOOD, YES_NO);
        put("least", PERSON, YES_NO);
        put("lots", PERSON, YES_NO);
        put("once");
        put("corner", WHAT, YES_NO);
        put("in", POINT, POINT, new Object[] {LEAST, -1, 0, 1, 2, 1000, 1001, MOST}, YES_NO);
        put("mild", ACT, ACT, ACT, ACT);
        put("edge", WAY, WAY, new Object[] {LEAST, 0, 1, 2, 3, 12, 13, MOST});
        put("together");
        put("mistakes", SMALL, SMALL);
        put("doubt", WAY, WAY, PERSON, YES_NO, YES_NO);
        put("row");
        put("judge", WAY, WAY);
        put("brought", PERSON);
        put("drawn", WAY, WAY, new Object[] {LEAST, -1, 0, 1, 5, 100, 101, MOST}, ANY, WHAT);
        put("field", WAY, new Object[] {LEAST, -1, 0, 1, 1000, 1001, MOST});
        put("rounds", new Object[] {LEAST, -1, 0, 1, 2, 30, 31, MOST});
        put("meet", WAY, WAY);
        put("grow", new Object[] {LEAST, -1, 0, 1, 3, 50, 51, MOST});
        put("beings", WAY);
        put("stays", WAY);
        put("all", WAY, WHAT);
        put("begin", WAY, WAY);
        put("villager", new Object[] {LEAST, -1, 0, 1, 50, 999, 1000, MOST}, new Object[] {LEAST, 0, 1, 20, 99, 100, MOST});
        put("villageEdge", WHAT, YES_NO);
        put("village", WHAT);
        put("image");
        put("back");
        put("count", WHAT);
    }

    private static void put(String name, Object[]... arguments) {
        ARGUMENTS.put(name, arguments);
    }

    private final int kind;
    private KeptWell own;
    private Oracle due;
    private int calls;
    private int wrong = 0;

    private EdgesTest(int kind) {
        this.kind = kind;
        begin();
    }

    public static void main(String[] args) {
        int asked = 0;
        int wrong = 0;
        for (Method method : KeptWell.class.getDeclaredMethods()) {
            if (!java.lang.reflect.Modifier.isPublic(method.getModifiers())) {
                continue;
            }
            for (int kind = 0; kind < 5; kind++) {
                EdgesTest test = new EdgesTest(kind);
                for (Object[] mixture : mixtures(ARGUMENTS.get(method.getName()))) {
                    test.call(method.getName(), mixture);
                    asked++;
                }
                wrong += test.wrong;
            }
        }
        System.out.println(asked + " calls, " + wrong + " not answered as the oracle does");
        if (wrong != 0) {
            System.exit(1);
        }
    }

    /** All mixtures of the arguments, or so many that are drawn by a fixed seed. */
    private static List<Object[]> mixtures(Object[][] arguments) {
        long all = 1;
        for (Object[] one : arguments) {
            all *= one.length;
        }
        Random random = new Random(7);
        List<Object[]> mixtures = new ArrayList<>();
        for (int number = 0; number < Math.min(all, MOST_MIXTURES); number++) {
            long rest = all <= MOST_MIXTURES ? number : (long) (random.nextDouble() * all);
            Object[] mixture = new Object[arguments.length];
            for (int i = 0; i < mixture.length; i++) {
                mixture[i] = arguments[i][(int) (rest % arguments[i].length)];
                rest /= arguments[i].length;
            }
            mixtures.add(mixture);
        }
        return mixtures;
    }

    /** New objects, told the same by what kind they are: new, with two ACTS or three, full, with an image. */
    private void begin() {
        own = new KeptWell();
        due = new Oracle();
        calls = 0;
        if (kind == 0) {
            return;
        }
        call("acts", 3);
        for (int cell = 0; cell < 9; cell++) {
            call("bring", cell / 3, cell % 3, cell * 5 % 7 - 3, cell * 4 % 9 - 4);
        }
        text("does 0,1 to 1;does 1,0 to 0", "does 1", "does 0;does 2,any to 0", "does 0,any to 1;does 1,any to 2;does 0,1 to 0");
        call("field", 0, 30);
        call("field", 1, 70);
        call("field", 2, 5);
        call("villager", 30, 20);
        call("villager", 50, 30);
        call("tomorrow", 3, 4);
        days(0, 1, 1, 1);
        call("mistakes", kind == 1 ? 0 : 2, 5);
        if (kind == 4) {
            call("image");
            days(2, 0);
        }
        call("acts", kind == 2 ? 3 : 2);
        if (kind >= 3) {
            text("does 1;does 0", "does 0", "does 1", "does 0,1 to 1;does 1");
            for (int i = 0; i < 4; i++) {
                call("villager", 20 + i, 20);
            }
        }
        feed("does 0,1 to 1;does 1");
    }

    private void text(String... texts) {
        for (String text : texts) {
            feed(text);
            call("way");
        }
    }

    private void days(int... acts) {
        StringBuilder days = new StringBuilder();
        for (int act : acts) {
            days.append((char) act);
        }
        feed(days.toString());
        call("row");
    }

    private void feed(String text) {
        for (int from = 0; from < text.length(); from += 20) {
            int[] five = Texts.five(text, from);
            call("feed", five[0], five[1], five[2], five[3], five[4]);
        }
        call("end", text.length());
    }

    private void call(String name, Object... arguments) {
        if (calls >= MOST_CALLS) {
            begin();
        }
        calls++;
        String got = answer(own, name, arguments);
        String wanted = answer(due, name, arguments);
        if (!got.equals(wanted)) {
            wrong++;
            System.out.println("kind " + kind + ": " + name + Arrays.toString(arguments) + " answered " + got + ", due is " + wanted);
        }
    }

    private static String answer(Object object, String name, Object[] arguments) {
        for (Method method : object.getClass().getDeclaredMethods()) {
            if (method.getName().equals(name) && java.lang.reflect.Modifier.isPublic(method.getModifiers())) {
                try {
                    return String.valueOf(method.invoke(object, arguments));
                } catch (InvocationTargetException e) {
                    return "throws " + e.getCause().getClass().getName();
                } catch (IllegalAccessException e) {
                    throw new AssertionError(e);
                }
            }
        }
        throw new AssertionError(name);
    }
}
