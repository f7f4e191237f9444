/** All that can be seen of an object, as a text; it takes some 350 calls, and nothing stays as it was. */
final class Looks {
    private static final int LONGEST_TAPE = 60;

    private Looks() {
    }

    static String all(KeptWell x) {
        StringBuilder seen = new StringBuilder();
        seen.append("fault ").append(x.fault());
        counts(x, seen);
        tape(x, seen);
        told(x, seen);
        seen.append("; back ").append(x.back());
        counts(x, seen);
        told(x, seen);
        return seen.toString();
    }

    private static void counts(KeptWell x, StringBuilder seen) {
        seen.append("; counts");
        for (int what = 0; what < 12; what++) {
            seen.append(' ').append(x.count(what));
        }
    }

    private static void tape(KeptWell x, StringBuilder seen) {
        int length = LONGEST_TAPE;
        while (!x.end(length)) {
            length--;
        }
        seen.append("; tape ").append(length).append(" read as ");
        try {
            seen.append(x.way());
        } catch (IllegalArgumentException e) {
            seen.append("wrong at ").append(x.fault());
        } catch (UnsupportedOperationException e) {
            seen.append("one too many");
        }
    }

    private static void told(KeptWell x, StringBuilder seen) {
        int ways = x.count(1);
        for (int way = 0; way < ways; way++) {
            seen.append("; way ").append(way).append(" beings ").append(x.beings(way)).append(" moods");
            int moods = x.mood(way, 0, 0);
            for (int mood = 0; mood < moods; mood++) {
                for (int what = 2; what <= 5; what++) {
                    seen.append(' ').append(x.mood(way, mood, what));
                }
            }
        }
        int villagers = x.count(10);
        for (int who = 0; who < villagers; who++) {
            seen.append("; villager ").append(x.villageEdge(who, false)).append('/').append(x.villageEdge(who, true));
        }
        seen.append("; brought ").append(x.brought(0)).append(' ').append(x.brought(1));
        x.acts(3);
        if (ways > 0) {
            seen.append("; judged ").append(x.judge(0, 0));
        }
        for (int cell = 0; cell < 9; cell++) {
            Checks.row(x, cell / 3, cell % 3);
            seen.append("; brings ").append(x.brought(0)).append(' ').append(x.brought(1));
        }
    }
}
