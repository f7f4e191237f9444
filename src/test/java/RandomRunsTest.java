import java.lang.reflect.InvocationTargetException;
import java.lang.reflect.Method;
import java.util.HashMap;
import java.util.Map;
import java.util.Random;

/** Long runs of calls drawn by fixed seeds, answered by the class and by the Oracle alike. */
public final class RandomRunsTest {
    private static final int RUNS = 1500;
    private static final int CALLS = 512;

    private static final Map<String, Method> OWN = methodsOf(KeptWell.class);
    private static final Map<String, Method> DUE = methodsOf(Oracle.class);
    private static final String[] ASKED = {"mood", "worth", "worth", "worth", "hold", "first", "first", "best", "best",
        "answer", "answer", "least", "lots", "lots", "once", "corner", "in", "mild", "mild", "edge", "together",
        "doubt", "doubt", "doubt", "judge", "judge", "brought", "drawn", "drawn", "drawn", "meet", "grow", "beings",
        "stays", "stays", "all", "begin", "begin", "villageEdge", "village", "village", "count", "count", "fault"};
    private static final String[] TOLD = {"acts", "bring", "bring", "bring", "tomorrow", "mistakes", "text", "text",
        "days", "field", "field", "rounds", "villager", "image", "back", "feed", "end", "bytes"};

    private final Random random;
    private final KeptWell own = new KeptWell();
    private final Oracle due = new Oracle();
    private final StringBuilder log = new StringBuilder();
    private final int size;
    private int calls = 0;

    private RandomRunsTest(long seed) {
        random = new Random(seed);
        size = new int[] {1, 2, 5, 20, 99}[random.nextInt(5)];
    }

    private static Map<String, Method> methodsOf(Class<?> type) {
        Map<String, Method> all = new HashMap<>();
        for (Method m : type.getDeclaredMethods()) {
            if (java.lang.reflect.Modifier.isPublic(m.getModifiers())) {
                all.put(m.getName(), m);
            }
        }
        return all;
    }

    public static void main(String[] args) {
        int runs = args.length > 0 ? Integer.parseInt(args[0]) : RUNS;
        long firstSeed = args.length > 1 ? Long.parseLong(args[1]) : 1;
        for (long seed = firstSeed; seed < firstSeed + runs; seed++) {
            String wrong = new RandomRunsTest(seed).run();
            if (wrong != null) {
                System.out.println("seed " + seed + ":\n" + wrong);
                System.exit(1);
            }
        }
        System.out.println(runs + " random runs answered as the oracle does");
    }

    private String run() {
        int kind = pick(16);
        String early = kind < 4 ? tellDeep() : kind == 4 ? growMuch() : null;
        if (early != null) {
            return early;
        }
        while (calls < CALLS) {
            String wrong = calls < 60 || random.nextInt(4) == 0 ? tell() : ask();
            if (wrong != null) {
                return wrong;
            }
        }
        return null;
    }

    /** Ways with long rings of moods, and great numbers: the longest fractions there can be. */
    private String tellDeep() {
        int acts = 2 + pick(2);
        String wrong = call("acts", acts);
        int q = 7 + pick(3);
        wrong = wrong != null ? wrong : call("tomorrow", pick(3) == 0 ? 1 + pick(q - 1) : q - 1, q);
        wrong = wrong != null || acts == 3 ? wrong : call("mistakes", 1 + pick(7), pick(2) + 8);
        for (int cell = 0; cell < acts * acts && wrong == null; cell++) {
            wrong = call("bring", cell / acts, cell % acts, 99 - pick(3) * 99, pick(2) == 0 ? 99 : -98 - pick(2));
        }
        for (int way = 0; way < 6 && wrong == null; way++) {
            StringBuilder text = new StringBuilder();
            int moods = acts == 3 ? 3 : 2 + pick(2);
            for (int mood = 0; mood < moods; mood++) {
                text.append(mood == 0 ? "" : ";").append("does ").append(pick(4) == 0 ? pick(acts) : mood % acts);
                for (int seen = 0; seen < acts; seen++) {
                    int to = pick(3) == 0 ? pick(moods) : (mood + seen + way) % moods;
                    text.append(",").append(seen).append(" to ").append(to);
                }
            }
            wrong = feedAll(text.toString(), "way");
        }
        return wrong;
    }

    /** Beings are put in again and again as others grow, so that there come to be as many as calls can bring. */
    private String growMuch() {
        int ways = 2 + pick(7);
        String wrong = call("rounds", 30 - pick(3));
        for (int cell = 0; cell < 4 && wrong == null; cell++) {
            int toFirst = cell == 0 ? 99 - pick(2) : pick(2) == 0 ? -99 + pick(2) : 99 - pick(199);
            wrong = call("bring", cell / 2, cell % 2, toFirst, 0);
        }
        for (int way = 0; way < ways && wrong == null; way++) {
            wrong = feedAll(way < 2 ? "does " + way : text(), "way");
        }
        int untilThen = CALLS - pick(40);
        while (calls < untilThen && wrong == null) {
            for (int way = 0; way < due.count(1) && wrong == null; way++) {
                wrong = due.beings(way) < 1000 ? call("field", way, 1000 - pick(2)) : null;
            }
            wrong = wrong != null ? wrong : call("grow", pick(20) == 0 ? 50 : 1);
            wrong = wrong != null || pick(8) > 0 ? wrong : call("beings", way());
        }
        return wrong != null ? wrong : call("count", 8);
    }

    private int pick(int below) {
        return random.nextInt(below);
    }

    /** Mostly within 0 to most, now and then just outside or far out. */
    private int near(int least, int most) {
        int kind = pick(40);
        if (kind == 0) {
            return least - 1;
        }
        if (kind == 1) {
            return most + 1;
        }
        if (kind == 2) {
            return new int[] {Integer.MIN_VALUE, Integer.MAX_VALUE, -1000, 1000}[pick(4)];
        }
        return least + pick(most - least + 1);
    }

    private String tell() {
        String what = TOLD[pick(TOLD.length)];
        switch (what) {
            case "acts":
                return call("acts", pick(10) == 0 ? near(0, 5) : 2 + pick(2));
            case "bring":
                return call("bring", near(0, 2), near(0, 2), near(-size, size), near(-size, size));
            case "tomorrow":
                return call("tomorrow", near(1, 5), near(4, 9));
            case "mistakes":
                return call("mistakes", near(0, 4), near(3, 9));
            case "text":
                return feedAll(pick(4) == 0 ? brokenText() : text(), "way");
            case "days":
                return feedAll(days(), "row");
            case "field":
                return call("field", way(), near(0, pick(2) == 0 ? 10 : 1000));
            case "rounds":
                return call("rounds", near(1, 30));
            case "villager":
                return call("villager", near(0, pick(2) == 0 ? 30 : 999), near(1, pick(2) == 0 ? 20 : 99));
            case "image":
                return pick(4) == 0 ? call("image") : null;
            case "back":
                return pick(8) == 0 ? call("back") : null;
            case "feed":
                return pick(6) == 0 ? call("feed", random.nextInt(), random.nextInt(), random.nextInt(), pick(3), 0) : null;
            case "end":
                return call("end", near(0, 60));
            default:
                return pick(20) == 0 ? tooMuch() : null;
        }
    }

    private String tooMuch() {
        for (int i = 0; i < 22; i++) {
            String wrong = call("feed", 0x646f6573, 0x20302020, 0, 0, i);
            if (wrong != null) {
                return wrong;
            }
        }
        return call(pick(2) == 0 ? "way" : "row");
    }

    private String blanks() {
        return " ".repeat(Math.max(0, pick(5) - 2));
    }

    private String text() {
        StringBuilder text = new StringBuilder(blanks());
        int moods = 1 + pick(3);
        for (int mood = 0; mood < moods; mood++) {
            text.append(mood == 0 ? "" : ";" + blanks()).append("does").append(blanks());
            text.append(pick(8) == 0 ? 2 : pick(2)).append(blanks());
            int seen = pick(4);
            for (int i = 0; i < seen; i++) {
                text.append(",").append(blanks()).append(pick(4) == 0 ? "any" : "" + pick(pick(3) == 0 ? 3 : 2));
                text.append(blanks()).append("to").append(blanks()).append(pick(moods)).append(blanks());
            }
        }
        return text.toString();
    }

    private String brokenText() {
        StringBuilder text = new StringBuilder(text());
        String signs = "doesanyt0123 ,;x\u00e9AZ{`/:";
        for (int i = 0; i <= pick(2); i++) {
            int at = pick(text.length());
            switch (pick(5)) {
                case 0:
                    text.setCharAt(at, signs.charAt(pick(signs.length())));
                    break;
                case 1:
                    text.insert(at, signs.charAt(pick(signs.length())));
                    break;
                case 2:
                    text.setLength(at + 1);
                    break;
                case 3:
                    text.append(";does 1,any to 2");
                    break;
                default:
                    text.deleteCharAt(at);
                    text.append(' ');
                    break;
            }
        }
        return text.toString();
    }

    private String days() {
        StringBuilder days = new StringBuilder();
        int many = pick(15);
        int acts = pick(4) == 0 ? 3 : 2;
        for (int i = 0; i < many; i++) {
            int act = pick(acts);
            days.append((char) (pick(3) == 0 ? pick(acts) : act)).append((char) act);
        }
        if (pick(15) == 0) {
            days.append((char) pick(6));
        }
        return days.toString();
    }

    /** Feeds a text, cuts it to its length, and reads it. */
    private String feedAll(String text, String reader) {
        String wrong = call("end", 0);
        for (int from = 0; from < text.length() && wrong == null; from += 20) {
            int[] five = Texts.five(text, from);
            wrong = call("feed", five[0], five[1], five[2], five[3], five[4]);
        }
        wrong = wrong != null ? wrong : call("end", text.length());
        wrong = wrong != null ? wrong : call(reader);
        return wrong != null ? wrong : call("fault");
    }

    private int way() {
        int ways = due.count(1);
        return ways == 0 ? near(0, 0) : near(0, ways - 1);
    }

    private int person() {
        return near(0, 1);
    }

    private int mood() {
        return pick(3) == 0 ? near(0, 2) : 0;
    }

    private boolean coin() {
        return random.nextBoolean();
    }

    private String ask() {
        String what = ASKED[pick(ASKED.length)];
        switch (what) {
            case "mood":
                return call(what, way(), mood(), near(0, 5));
            case "worth":
                return call(what, way(), mood(), way(), mood(), person(), coin());
            case "hold":
            case "first":
            case "judge":
            case "meet":
            case "begin":
                return call(what, way(), way());
            case "best":
                return call(what, person(), way(), mood());
            case "answer":
                return call(what, person(), way(), mood(), coin());
            case "least":
            case "lots":
                return call(what, person(), coin());
            case "corner":
                return call(what, near(0, 5), coin());
            case "in":
                return askIn();
            case "mild":
                return call(what, near(0, 2), near(0, 2), near(0, 2), near(0, 2));
            case "edge":
                return call(what, way(), way(), near(2, 12));
            case "doubt":
                return call(what, way(), way(), person(), coin(), coin());
            case "brought":
                return call(what, person());
            case "drawn":
                return call(what, way(), way(), near(0, 100), random.nextInt(), near(0, 3));
            case "grow":
                return call(what, pick(10) == 0 ? near(0, 50) : pick(4));
            case "beings":
            case "stays":
                return call(what, way());
            case "all":
                return pick(3) == 0 ? call(what, way(), near(0, 3)) : null;
            case "villageEdge":
                return call(what, near(0, 5), coin());
            case "village":
                return call(what, near(0, 2));
            case "count":
                return call(what, near(0, 11));
            default:
                return call(what);
        }
    }

    private String askIn() {
        int d = pick(3) == 0 ? near(1, 1000) : 1 + pick(4);
        long span = Math.min(100000L, 1L + size * (long) Math.max(1, Math.min(d, 1000)));
        return call("in", near((int) -span, (int) span), near((int) -span, (int) span), d, pick(3) == 0);
    }

    private String call(String name, Object... args) {
        if (calls >= CALLS) {
            return null;
        }
        calls++;
        String got = answer(OWN.get(name), own, args);
        String wanted = answer(DUE.get(name), due, args);
        log.append(name).append(java.util.Arrays.toString(args)).append(" = ").append(wanted).append('\n');
        return got.equals(wanted) ? null : log + "but the class answered " + got;
    }

    private static String answer(Method method, Object object, Object[] args) {
        try {
            return String.valueOf(method.invoke(object, args));
        } catch (InvocationTargetException e) {
            return "throws " + e.getCause().getClass().getName();
        } catch (IllegalAccessException e) {
            throw new AssertionError(e);
        }
    }
}
