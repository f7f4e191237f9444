import java.lang.reflect.InvocationTargetException;
import java.lang.reflect.Method;
import java.util.Arrays;
import java.util.Comparator;
import java.util.NoSuchElementException;
import java.util.function.Consumer;
import java.util.function.Supplier;

/** What the tests share: what is due, calls that are refused, texts and rows for the tape, and objects to ask. */
class Checks {
    /** A call that may throw. */
    interface Call {
        void go();
    }

    static final Class<?> INDEX = IndexOutOfBoundsException.class;
    static final Class<?> ARGUMENT = IllegalArgumentException.class;
    static final Class<?> STATE = IllegalStateException.class;
    static final Class<?> SUCH = NoSuchElementException.class;
    static final Class<?> UNSUPPORTED = UnsupportedOperationException.class;

    static final int[] FAR = {Integer.MIN_VALUE, Integer.MAX_VALUE};

    static final String GOOD = "does 0";
    static final String BAD = "does 1";
    static final String MIRROR = "does 0, 1 to 1; does 1, 0 to 0";
    static final String GRIM = "does 0, 1 to 1; does 1";

    private static int wrong = 0;
    private static String test = "";

    static void wrong(String what) {
        wrong++;
        System.out.println(test + what);
    }

    static void due(String what, long got, long want) {
        if (got != want) {
            wrong(what + " answered " + got + ", due is " + want);
        }
    }

    static void due(String what, boolean got, boolean want) {
        due(what, got ? 1 : 0, want ? 1 : 0);
    }

    static void dueText(String what, String got, String want) {
        if (!got.equals(want)) {
            wrong(what + ": " + got + ", due is " + want);
        }
    }

    static void refused(String what, Class<?> by, Call call) {
        String got = "no exception";
        try {
            call.go();
        } catch (RuntimeException e) {
            got = e.getClass().getName();
        }
        if (!got.equals(by.getName())) {
            wrong(what + " came to " + got + ", due is " + by.getName());
        }
    }

    /** A call is refused on one of two like objects, and both answer all alike then. */
    static void refusedAndNothingChanges(String what, Class<?> by, Supplier<KeptWell> maker, Consumer<KeptWell> call) {
        KeptWell x = maker.get();
        refused(what, by, () -> call.accept(x));
        dueText("after " + what, Looks.all(x), Looks.all(maker.get()));
    }

    /** Runs all methods of a class that say what they test, and ends with exit code 1 if an answer was not as due. */
    static void run(Class<?> tests) {
        Method[] all = tests.getDeclaredMethods();
        Arrays.sort(all, Comparator.comparing(Method::getName));
        int many = 0;
        for (Method method : all) {
            if (method.isAnnotationPresent(Says.class)) {
                runOne(method);
                many++;
            }
        }
        end(many + " tests hold");
    }

    private static void runOne(Method method) {
        test = method.getName() + ": ";
        try {
            method.invoke(null);
        } catch (InvocationTargetException e) {
            wrong("came to " + e.getCause());
        } catch (IllegalAccessException e) {
            throw new AssertionError(e);
        }
    }

    static void end(String whatHolds) {
        System.out.println(wrong == 0 ? whatHolds : wrong + " answers are not as due");
        if (wrong != 0) {
            System.exit(1);
        }
    }

    /** Puts bytes on an empty tape, and nothing behind them. */
    static void put(KeptWell x, String text) {
        for (int from = 0; from < text.length(); from += 20) {
            int[] five = Texts.five(text, from);
            x.feed(five[0], five[1], five[2], five[3], five[4]);
        }
        x.end(text.length());
    }

    static int way(KeptWell x, String text) {
        put(x, text);
        return x.way();
    }

    static void ways(KeptWell x, String... texts) {
        for (String text : texts) {
            way(x, text);
        }
    }

    static String days(int... acts) {
        StringBuilder days = new StringBuilder();
        for (int act : acts) {
            days.append((char) act);
        }
        return days.toString();
    }

    static int row(KeptWell x, int... acts) {
        put(x, days(acts));
        return x.row();
    }

    /** Whether the tape has just so many bytes. */
    static boolean tapeHas(KeptWell x, int bytes) {
        return !x.end(bytes + 1) && x.end(bytes);
    }

    /** How many beings of each way there are, as figures of a number with so many zeros. */
    static long beings(KeptWell x, int ways, long figure) {
        long all = 0;
        for (int way = 0; way < ways; way++) {
            all = all * figure + x.beings(way);
        }
        return all;
    }

    /** What four pairs of acts bring both: 0 and 0, 0 and 1, 1 and 0, 1 and 1. */
    static KeptWell game(int a, int b, int c, int d, int e, int f, int g, int h) {
        KeptWell x = new KeptWell();
        x.bring(0, 0, a, b);
        x.bring(0, 1, c, d);
        x.bring(1, 0, e, f);
        x.bring(1, 1, g, h);
        return x;
    }

    /** Both 3 for two good ones, 1 for two bad ones, 5 and 0 if just one is bad; ways 0 to 3: good, bad, mirror, grim. */
    static KeptWell twoAtTheWell() {
        KeptWell x = game(3, 3, 0, 5, 5, 0, 1, 1);
        ways(x, GOOD, BAD, MIRROR, GRIM);
        return x;
    }

    /** With something of all that can be told, an image of other things, a wrong byte, and a text on the tape. */
    static KeptWell full() {
        KeptWell x = new KeptWell();
        x.acts(3);
        for (int cell = 0; cell < 9; cell++) {
            x.bring(cell / 3, cell % 3, 10 + cell, 2 * cell - 30);
        }
        ways(x, GOOD, MIRROR);
        x.tomorrow(2, 3);
        x.field(0, 5);
        x.villager(7, 5);
        row(x, 0, 1);
        x.image();
        x.bring(0, 0, -44, 55);
        x.bring(2, 1, 66, -77);
        ways(x, "does 2, any to 0", "does 1; does 1; does 0, any to 2");
        x.acts(2);
        x.tomorrow(3, 5);
        x.mistakes(1, 4);
        x.rounds(7);
        x.field(1, 9);
        x.field(2, 8);
        x.field(3, 4);
        x.villager(5, 4);
        row(x, 1, 0, 2, 0);
        put(x, "does 3");
        refused("a wrong text", ARGUMENT, () -> x.way());
        put(x, "does 1, any to 1; does 0");
        return x;
    }

    static KeptWell fullWithThreeActs() {
        KeptWell x = full();
        x.acts(3);
        return x;
    }
}
