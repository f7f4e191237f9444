import java.util.Random;

/** ALL WAYS by many games and ways: their numbers' bits stand where they should, as the Oracle has them. */
public final class AllWaysTest {
    private static final int GAMES = 150;

    public static void main(String[] args) {
        Random random = new Random(20);
        for (int game = 0; game < GAMES; game++) {
            KeptWell own = new KeptWell();
            Oracle due = new Oracle();
            int q = 2 + random.nextInt(8);
            int p = 1 + random.nextInt(q - 1);
            own.tomorrow(p, q);
            due.tomorrow(p, q);
            int size = 1 + random.nextInt(5);
            for (int cell = 0; cell < 4; cell++) {
                int first = random.nextInt(2 * size + 1) - size;
                int second = random.nextInt(2 * size + 1) - size;
                own.bring(cell / 2, cell % 2, first, second);
                due.bring(cell / 2, cell % 2, first, second);
            }
            String text = text(random);
            feed(own, due, text);
            for (int what = 0; what < 4; what++) {
                int got = own.all(0, what);
                int wanted = due.all(0, what);
                if (got != wanted) {
                    System.out.println("game " + game + ", '" + text + "': all(0, " + what + ") answered " + got
                            + ", due is " + wanted);
                    System.exit(1);
                }
            }
        }
        System.out.println("all ways are as the oracle has them");
    }

    private static String text(Random random) {
        int moods = 1 + random.nextInt(3);
        StringBuilder text = new StringBuilder();
        for (int mood = 0; mood < moods; mood++) {
            text.append(mood == 0 ? "" : ";").append("does ").append(random.nextInt(2));
            for (int seen = 0; seen < 2; seen++) {
                text.append(',').append(seen).append(" to ").append(random.nextInt(moods));
            }
        }
        return text.toString();
    }

    private static void feed(KeptWell own, Oracle due, String text) {
        for (int from = 0; from < text.length(); from += 20) {
            int[] five = Texts.five(text, from);
            own.feed(five[0], five[1], five[2], five[3], five[4]);
            due.feed(five[0], five[1], five[2], five[3], five[4]);
        }
        own.end(text.length());
        due.end(text.length());
        own.way();
        due.way();
    }
}
