/** Each promise of the document by its number: ordinary calls, the edges it names, and wrong ones. */
public final class PromisesTest extends Checks {
    public static void main(String[] args) {
        p1NewObject();
        p2p3Tape();
        p4p5Meeting();
        p6Tomorrow();
        p7p8Texts();
        p8WrongBytes();
        p9Mood();
        p10Worth();
        p11p12Hold();
        p13p14Best();
        p15p16Least();
        p17Once();
        p18p19Body();
        p20Mild();
        p21p22Edge();
        p23p24Mistakes();
        p25to27Rows();
        p28Drawn();
        p29to33Field();
        p34Stays();
        p35All();
        p36Begin();
        p37to39Village();
        p40p41Image();
        p42Count();
        end("all promises hold");
    }

    private static void p1NewObject() {
        KeptWell x = new KeptWell();
        int[] counts = {2, 0, 0, 1, 2, 0, 1, 0, 0, 10, 0, 1};
        for (int what = 0; what < counts.length; what++) {
            due("new: count " + what, x.count(what), counts[what]);
        }
        due("new: fault", x.fault(), -1);
        due("new: back", x.back(), false);
        due("new: once", x.once(), 1 | 2 | 8 | 16);
        due("new: together", x.together(), -1);
        due("new: WEAK", x.village(0), -1);
        due("new: HELD", x.village(1), 1);
        due("new: FEW", x.village(2), 0);
        due("new: grow", x.grow(50), 0);
        refused("new: beings", INDEX, () -> x.beings(0));
        refused("new: hold", INDEX, () -> x.hold(0, 0));
    }

    private static void p2p3Tape() {
        KeptWell x = new KeptWell();
        for (int i = 1; i <= 20; i++) {
            due("feed", x.feed(0, 0, 0, 0, 0), 20 * i);
        }
        due("feed beyond 400", x.feed(0, 0, 0, 0, 0), -1);
        due("end at what it has", x.end(400), true);
        due("end beyond", x.end(401), false);
        due("end below 0", x.end(-1), false);
        due("end", x.end(381), true);
        due("feed of one byte too many", x.feed(0, 0, 0, 0, 0), -1);
        due("end longer than it is now", x.end(382), false);
        due("end", x.end(380), true);
        due("feed to the last byte", x.feed(0x00000000, 0, 0, 0, 0x01020001), 400);
        due("row of all", x.row(), 200);
        due("the tape is used up", x.feed(0, 0, 0, 0, 0), 20);
        due("end at none", x.end(0), true);
        // highest byte first
        x.feed(0x00010200, 0, 0, 0, 0);
        x.end(4);
        due("row", x.row(), 2);
        x.acts(3);
        x.bring(0, 1, 7, 0);
        x.bring(2, 0, 40, 0);
        due("bytes in their order", x.brought(0), 47);
    }

    private static void p4p5Meeting() {
        KeptWell x = new KeptWell();
        refused("acts 1", ARGUMENT, () -> x.acts(1));
        refused("acts 4", ARGUMENT, () -> x.acts(4));
        refused("bring of act 2 of two", INDEX, () -> x.bring(2, 0, 1, 1));
        refused("bring for act 2 of two", INDEX, () -> x.bring(0, 2, 100, 1));
        refused("bring of act -1", INDEX, () -> x.bring(-1, 0, 1, 1));
        refused("bring 100", ARGUMENT, () -> x.bring(0, 0, 100, 1));
        refused("bring -100", ARGUMENT, () -> x.bring(0, 0, 1, -100));
        x.bring(1, 1, -99, 99);
        due("bring", x.corner(0, false), -99);
        x.acts(3);
        x.bring(2, 2, -99, -99);
        due("three acts", x.corner(0, true), -99);
        x.acts(2);
        due("two acts again", x.corner(0, true), 99);
        x.acts(3);
        due("what was told of act 2 stays", x.corner(0, true), -99);
        refused("bring of act 3", INDEX, () -> x.bring(3, 0, 1, 1));
    }

    private static void p6Tomorrow() {
        KeptWell x = twoAtTheWell();
        int[][] none = {{0, 1}, {0, 2}, {1, 1}, {2, 2}, {3, 2}, {1, 10}, {9, 10}, {-1, 2}, {1, -2}};
        for (int[] pq : none) {
            refused("tomorrow " + pq[0] + "/" + pq[1], ARGUMENT, () -> x.tomorrow(pq[0], pq[1]));
        }
        due("nothing changed", x.worth(0, 0, 0, 0, 0, false), 6);
        x.tomorrow(8, 9);
        due("by 8/9", x.worth(0, 0, 0, 0, 0, false), 27);
        x.tomorrow(6, 9);
        due("by 6/9", x.worth(0, 0, 0, 0, 0, false), 9);
        due("P as told", x.count(3), 6);
        due("Q as told", x.count(4), 9);
    }

    private static void p7p8Texts() {
        KeptWell x = new KeptWell();
        String[] good = {"does 0", "  does   1 ", "does0,1to1;does1,any to0", "does 2 , 2 to 2 ; does 0 ; does 1 , any to 1  ",
            "does 0, 0 to 1, 0 to 0; does 1"};
        for (int i = 0; i < good.length; i++) {
            due(good[i], way(x, good[i]), i);
            due("fault of " + good[i], x.fault(), -1);
        }
        due("the last one counts", x.mood(4, 0, 3), 0);
        refused("an empty text", ARGUMENT, () -> x.way());
        due("fault of an empty text", x.fault(), 0);
        put(x, "does 3");
        refused("a wrong text", ARGUMENT, () -> x.way());
        due("the tape is used up", x.feed(0, 0, 0, 0, 0), 20);
        x.end(0);
        for (int i = 5; i < 8; i++) {
            way(x, GOOD);
        }
        put(x, GOOD);
        refused("a ninth way", UNSUPPORTED, () -> x.way());
        due("fault of a right text that is refused", x.fault(), -1);
        due("used up also when refused", x.feed(0, 0, 0, 0, 0), 20);
        x.end(0);
        put(x, "does 0 5");
        refused("a ninth way that is wrong", ARGUMENT, () -> x.way());
        due("fault of it", x.fault(), 7);
        due("still 8", x.count(1), 8);
        row(x, 0, 1);
        due("a row is no text", x.fault(), 7);
    }

    private static void p8WrongBytes() {
        String[] texts = {"", "   ", "does", "does ", "does 3", "does 00", "does x", "doe 0", "Does 0", "doesx 0", "does 0 0",
            "does 0,", "does 0, ", "does 0,x to 0", "does 0,3 to 0", "does 0,any", "does 0,anyto 0", "does 0,1 too 0",
            "does 0,1 to", "does 0,1 to 3", "does 0,1 to 01", "does 0,1 to 1", "does 0,1 to 2;does 0,1 to 1",
            "does 0;does 0;does 0;", "does 0;does 0;does 0;does 0", "does 0;does 0;does 0;  x", "does 0;does 0;does 0; 1",
            "does 0;;", "; does 0", "does 0.", "does\t0", "does 0, 1 to 1, 1 to 0", "does 0,1 to 2;does 9", "does 0,,1 to 0",
            "does 0,1 to 0;", "does 0 to 1", "does 0\u00e9", "doesz 0", "does 0, 1 toz 0", "{does 0", "does`0", "does /", "does :", "does 0,any to 0,0 to 2;does 1,any to 2"};
        int[] faults = {0, 3, 4, 5, 5, 5, 5, 0, 0, 0, 7,
            7, 8, 7, 7, 10, 7, 9,
            11, 12, 12, 12, 12,
            21, 21, 23, 22,
            7, 0, 6, 4, 13, 19, 7,
            14, 7, 6, 0, 10, 0, 4, 5, 5, 21};
        KeptWell x = new KeptWell();
        for (int i = 0; i < texts.length; i++) {
            String text = texts[i];
            put(x, text);
            refused("'" + text + "'", ARGUMENT, () -> x.way());
            due("fault of '" + text + "'", x.fault(), faults[i]);
        }
        due("no ways", x.count(1), 0);
    }

    private static void p9Mood() {
        KeptWell x = new KeptWell();
        way(x, "does 0, 1 to 1; does 2, any to 0, 2 to 1");
        int[][] due = {{0, 0, 1, 0}, {2, 0, 0, 1}};
        for (int mood = 0; mood < 2; mood++) {
            for (int what = 2; what <= 5; what++) {
                due("mood " + mood + " " + what, x.mood(0, mood, what), due[mood][what - 2]);
            }
        }
        due("moods", x.mood(0, 99, 0), 2);
        due("barred", x.mood(0, -1, 1), 1);
        x.acts(3);
        due("not barred", x.mood(0, 0, 1), 0);
        way(x, "does 1, any to 1; does 1");
        for (int what = 3; what <= 5; what++) {
            due("any is each act", x.mood(1, 0, what), 1);
        }
        refused("mood 2 of two", INDEX, () -> x.mood(0, 2, 2));
        refused("mood -1", INDEX, () -> x.mood(0, -1, 5));
        refused("what 6", SUCH, () -> x.mood(0, 0, 6));
        refused("what -1 of no mood", SUCH, () -> x.mood(0, 9, -1));
        refused("what 6 of no way", INDEX, () -> x.mood(2, 0, 6));
    }

    private static void p10Worth() {
        KeptWell x = twoAtTheWell();
        due("3 for ever", x.worth(0, 0, 0, 0, 1, false), 6);
        due("below", x.worth(0, 0, 0, 0, 1, true), 1);
        // 0 and 5 by turns: 5/2 over 3/4
        due("by turns", x.worth(2, 0, 2, 1, 0, false), 10);
        due("by turns, below", x.worth(2, 0, 2, 1, 0, true), 3);
        due("by turns, the other", x.worth(2, 0, 2, 1, 1, false), 20);
        due("worth nothing", new KeptWell().count(1), 0);
        x.bring(1, 1, 0, 0);
        due("0 above", x.worth(1, 0, 1, 0, 0, false), 0);
        due("0 below", x.worth(1, 0, 1, 0, 0, true), 1);
        x.bring(1, 1, -99, -7);
        due("below 0", x.worth(1, 0, 1, 0, 0, false), -198);
        refused("way", INDEX, () -> x.worth(4, 0, 0, 0, 0, false));
        refused("mood of the first", INDEX, () -> x.worth(0, 1, 0, 0, 0, false));
        refused("mood of the second", INDEX, () -> x.worth(0, 0, 2, 2, 0, false));
        refused("person", INDEX, () -> x.worth(0, 0, 0, 0, 2, false));
        way(x, "does 0; does 2");
        refused("barred", STATE, () -> x.worth(0, 0, 4, 0, 0, false));
        refused("barred, but no mood", INDEX, () -> x.worth(0, 0, 4, 2, 0, false));
        x.acts(3);
        due("three acts", x.worth(0, 0, 4, 0, 0, false), 6);
    }

    private static void p11p12Hold() {
        KeptWell x = twoAtTheWell();
        due("two bad ones hold", x.hold(1, 1), true);
        due("two good ones do not", x.hold(0, 0), false);
        due("first of two good ones", x.first(0, 0), 0);
        due("first of good and bad", x.first(0, 1), 0);
        due("first of bad and good", x.first(1, 0), 1);
        due("first of two mirrors", x.first(2, 2), 0);
        due("two grim ones in moods never come to", x.first(3, 3), 2);
        x.tomorrow(1, 3);
        due("two grim ones, tomorrow counts less", x.first(3, 3), 0);
        // as much is no gain: 5 and 1/2 of 2 is 3 and 1/2 of 6
        x.tomorrow(1, 2);
        x.bring(1, 0, 5, 2);
        x.bring(0, 1, 2, 5);
        due("as much is no gain", x.first(0, 0), 0);
        x.bring(1, 0, 3, 3);
        x.bring(0, 1, 3, 3);
        due("the same holds", x.hold(0, 0), true);
        refused("way", INDEX, () -> x.first(0, 4));
        refused("way", INDEX, () -> x.hold(-1, 0));
        way(x, "does 2");
        refused("barred", STATE, () -> x.first(4, 0));
        refused("barred", STATE, () -> x.hold(0, 4));
        x.acts(3);
        due("three acts", x.first(4, 4), -1);
        x.bring(2, 1, -1, 1);
        due("another act of person 1", x.first(4, 4), 1);
        x.bring(1, 2, 1, -1);
        due("another act of person 0", x.first(4, 4), 0);
    }

    private static void p13p14Best() {
        KeptWell x = twoAtTheWell();
        due("to a good one", x.best(0, 0, 0), 1);
        due("to a grim one: as much by both, the least", x.best(1, 3, 0), 0);
        due("to a mirror", x.best(1, 2, 0), 1);
        due("to a grim one in mood 1", x.best(1, 3, 1), 1);
        due("worth", x.answer(0, 0, 0, false), 10);
        due("worth below", x.answer(0, 0, 0, true), 1);
        // by turns bad and good: 5 and 0 and 5: 5 over 3/4
        due("to a mirror by turns", x.answer(0, 2, 0, false), 20);
        due("to a mirror by turns, below", x.answer(0, 2, 0, true), 3);
        x.tomorrow(3, 4);
        due("to a mirror, tomorrow counts", x.best(0, 2, 0), 0);
        due("worth", x.answer(0, 2, 0, false), 12);
        due("in mood 1", x.answer(0, 2, 1, false), 9);
        refused("person", INDEX, () -> x.best(2, 0, 0));
        refused("way", INDEX, () -> x.best(0, 4, 0));
        refused("mood", INDEX, () -> x.answer(0, 0, 1, false));
        way(x, "does 2");
        refused("barred", STATE, () -> x.best(0, 4, 0));
        refused("barred", STATE, () -> x.answer(0, 4, 0, true));
        refused("barred, but no mood", INDEX, () -> x.answer(0, 4, 1, true));
    }

    private static void p15p16Least() {
        KeptWell x = twoAtTheWell();
        due("least", x.least(0, false), 1);
        due("threat", x.least(0, true), 1);
        refused("person", INDEX, () -> x.least(2, true));
        refused("person", INDEX, () -> x.lots(-1, true));
        KeptWell coins = new KeptWell();
        coins.bring(0, 0, 1, -1);
        coins.bring(1, 1, 2, -1);
        due("as much by both: the least threat", coins.least(1, true), 0);
        due("least by acts", coins.least(0, false), 1);
        due("lots", coins.lots(0, false), 2);
        due("lots below", coins.lots(0, true), 3);
        due("lots of the other one", coins.lots(1, false), -1);
        due("lots of the other one, below", coins.lots(1, true), 2);
        coins.acts(3);
        coins.bring(2, 2, 3, 0);
        due("lots by three", coins.lots(0, false), 6);
        due("lots by three, below", coins.lots(0, true), 11);
    }

    private static void p17Once() {
        KeptWell x = twoAtTheWell();
        due("both bad", x.once(), 16);
        x.bring(1, 0, 3, 0);
        x.bring(0, 1, 0, 3);
        due("as much is no gain", x.once(), 17);
        x.acts(3);
        due("a third act", x.once(), 17 | 256);
    }

    private static void p18p19Body() {
        KeptWell x = twoAtTheWell();
        int[][] corners = {{0, 5}, {1, 1}, {5, 0}, {3, 3}};
        for (int k = 0; k < 4; k++) {
            due("corner across", x.corner(k, false), corners[k][0]);
            due("corner up", x.corner(k, true), corners[k][1]);
        }
        due("corner 4", x.corner(4, false), 1000);
        due("corner -1", x.corner(-1, true), 1000);
        due("border", x.in(8, 3, 2, false), true);
        due("just outside", x.in(801, 300, 200, false), false);
        due("kept", x.in(2, 2, 1, true), true);
        due("not above the least", x.in(1, 1, 1, true), false);
        due("not above the least across", x.in(1, 2, 1, true), false);
        due("not above the least up", x.in(2, 1, 1, true), false);
        due("a point that is in", x.in(1, 1, 1, false), true);
        due("two points that are in", x.in(1, 2, 1, false) && x.in(2, 1, 1, false), true);
        due("no act of three", x.count(11), 4);
        KeptWell line = new KeptWell();
        due("a point", line.in(0, 0, 1000, false), true);
        due("another point", line.in(1, 0, 1000, false), false);
        due("another point", line.in(0, -1, 1000, false), false);
        line.bring(0, 0, 4, 4);
        line.bring(0, 1, 2, 2);
        due("a side", line.count(11), 2);
        due("from the least across", line.corner(0, true), 0);
        due("to the end", line.corner(1, true), 4);
        due("on it", line.in(1, 1, 3, false), true);
        due("beside it", line.in(1, 2, 3, false), false);
        due("behind it", line.in(13, 13, 3, false), false);
        line.bring(0, 0, 0, 4);
        line.bring(0, 1, 0, -5);
        due("straight up: from the least", line.corner(0, true), -5);
        due("straight up", line.corner(1, true), 4);
        due("above", line.in(0, 5, 1, false), false);
        int[][] none = {{0, 0, 0}, {0, 0, 1001}, {100001, 0, 1}, {-100001, 0, 1}, {0, 100001, 1}, {0, -100001, 1}, {0, 0, -1}};
        for (int[] n : none) {
            refused("in " + n[0] + " " + n[1] + " " + n[2], ARGUMENT, () -> line.in(n[0], n[1], n[2], false));
        }
        due("far", line.in(100000, -100000, 1000, true), false);
    }

    private static void p20Mild() {
        KeptWell x = twoAtTheWell();
        due("none", x.mild(0, 0, 1, 1), -1);
        x.tomorrow(2, 3);
        due("two days", x.mild(0, 0, 1, 1), 2);
        x.tomorrow(8, 9);
        due("two days, though tomorrow counts more", x.mild(0, 0, 1, 1), 2);
        x.bring(1, 0, 4, 0);
        due("one day for person 0, two for person 1", x.mild(0, 0, 1, 1), 2);
        x.bring(0, 1, 0, 4);
        due("one day", x.mild(0, 0, 1, 1), 1);
        due("no day", x.mild(1, 1, 0, 0), 0);
        due("a threat that one does not do", x.mild(0, 0, 1, 0), -1);
        KeptWell y = new KeptWell();
        y.bring(0, 0, 4, 0);
        y.bring(1, 0, 6, 0);
        y.bring(0, 1, 2, 0);
        due("as much is no gain, on days of threat neither", y.mild(0, 0, 1, 1), 1);
        y.bring(0, 1, 3, 0);
        due("a gain on each day of threat", y.mild(0, 0, 1, 1), -1);
        y.tomorrow(8, 9);
        y.bring(0, 0, 0, 0);
        y.bring(0, 1, -99, 0);
        y.bring(1, 1, -10, 0);
        y.bring(1, 0, 50, 0);
        due("nine days", y.mild(0, 0, 1, 1), 9);
        y.bring(1, 0, 53, 0);
        due("ten would be needed", y.mild(0, 0, 1, 1), -1);
        refused("act", INDEX, () -> x.mild(2, 0, 0, 0));
        refused("act", INDEX, () -> x.mild(0, -1, 0, 0));
        refused("act", INDEX, () -> x.mild(0, 0, 2, 0));
        refused("act", INDEX, () -> x.mild(0, 0, 0, 2));
    }

    private static void p21p22Edge() {
        KeptWell x = twoAtTheWell();
        due("at once", x.edge(1, 1, 12), 112);
        due("at once by halves", x.edge(1, 1, 2), 102);
        due("never", x.edge(0, 0, 12), -1);
        due("together", x.together(), 9);
        KeptWell y = new KeptWell();
        y.bring(0, 0, 3, 3);
        y.bring(0, 1, 0, 5);
        y.bring(1, 0, 3, 2);
        y.bring(1, 1, 0, 1);
        way(y, GRIM);
        way(y, GOOD);
        due("two thirds", y.edge(0, 1, 12), 203);
        due("two thirds", y.edge(0, 1, 3), 203);
        due("none by halves", y.edge(0, 1, 2), -1);
        due("none holds", y.together(), -1);
        y.tomorrow(2, 3);
        due("together", y.together(), 1);
        refused("q 1", ARGUMENT, () -> x.edge(0, 0, 1));
        refused("q 13", ARGUMENT, () -> x.edge(0, 0, 13));
        refused("way", INDEX, () -> x.edge(0, 8, 13));
        way(x, "does 2");
        refused("barred", STATE, () -> x.edge(0, 4, 12));
        refused("barred, but no q", ARGUMENT, () -> x.edge(0, 4, 13));
        due("a barred one is not together", x.together(), 9);
    }

    private static void p23p24Mistakes() {
        KeptWell x = twoAtTheWell();
        int[][] none = {{-1, 2}, {1, 1}, {2, 1}, {0, 0}, {0, 10}, {9, 9}, {0, -1}};
        for (int[] n : none) {
            refused("mistakes " + n[0] + "/" + n[1], ARGUMENT, () -> x.mistakes(n[0], n[1]));
        }
        due("without mistakes", x.doubt(2, 2, 0, false, false), 6);
        due("without cost", x.doubt(2, 2, 0, true, false), 0);
        due("without cost, below", x.doubt(2, 2, 0, true, true), 1);
        x.mistakes(1, 2);
        due("doubted", x.doubt(3, 3, 0, false, false), 34);
        due("doubted, below", x.doubt(3, 3, 0, false, true), 7);
        due("cost", x.doubt(3, 3, 1, true, false), 8);
        due("cost, below", x.doubt(3, 3, 1, true, true), 7);
        x.mistakes(1, 3);
        due("one eye alone", x.doubt(0, 2, 0, false, true) > 0, true);
        // a mirror against a good one: it errs in a third of all days from the second on: 3 and 11/3 for ever
        due("one eye", x.doubt(2, 0, 0, false, false), 20);
        due("one eye, below", x.doubt(2, 0, 0, false, true), 3);
        due("a cost below 0", x.doubt(2, 0, 0, true, false), -2);
        refused("way", INDEX, () -> x.doubt(0, 4, 0, false, false));
        refused("person", INDEX, () -> x.doubt(0, 0, 2, false, false));
        way(x, "does 0; does 0; does 1");
        way(x, "does 0; does 2");
        refused("three moods", STATE, () -> x.doubt(0, 4, 0, false, false));
        refused("three moods", STATE, () -> x.doubt(4, 0, 0, false, false));
        refused("barred", STATE, () -> x.doubt(0, 5, 0, false, false));
        x.acts(3);
        refused("three acts", STATE, () -> x.doubt(0, 0, 0, false, false));
        x.mistakes(8, 9);
        due("told with three acts", x.count(5), 8);
    }

    private static void p25to27Rows() {
        KeptWell x = twoAtTheWell();
        due("no days", row(x), 0);
        due("judged without days", x.judge(0, 0), -1);
        due("brought without days", x.brought(0), 0);
        due("three days", row(x, 0, 0, 0, 1, 1, 0), 3);
        due("person 1 on day 1", x.judge(2, 2), 3);
        due("none", x.judge(2, 0) + x.judge(0, 2), 3 + 3);
        due("brought 0", x.brought(0), 8);
        due("brought 1", x.brought(1), 8);
        due("both otherwise: person 0", x.judge(1, 1), 0);
        row(x, 0, 1, 1, 1, 1, 0, 0, 0);
        due("person 1 did not as it says", x.judge(2, 1), 5);
        due("as both say", x.judge(2, 0), 1);
        row(x, 0, 1, 1, 1, 1, 1);
        due("as both say", x.judge(2, 1), -1);
        due("a day is judged by what was done ahead", x.judge(3, 1), -1);
        put(x, "\0\3");
        refused("no act", ARGUMENT, () -> x.row());
        put(x, "\u0003\0");
        refused("no act ahead", ARGUMENT, () -> x.row());
        due("the row before stays", x.count(7), 3);
        due("used up", x.feed(0, 0, 0, 0, 0), 20);
        x.end(3);
        refused("one byte left", ARGUMENT, () -> x.row());
        refused("no way", INDEX, () -> x.judge(0, 4));
        refused("no person", INDEX, () -> x.brought(2));
        x.acts(3);
        x.bring(2, 0, 50, 60);
        row(x, 0, 0, 2, 0);
        due("judged with three acts", x.judge(0, 0), 2);
        x.acts(2);
        refused("an act that is none now", STATE, () -> x.judge(0, 0));
        refused("no way first", INDEX, () -> x.judge(0, 4));
        due("act 2 counts", x.brought(0), 53);
        due("act 2 counts", x.brought(1), 63);
        way(x, "does 2");
        row(x, 0, 0);
        refused("barred", STATE, () -> x.judge(4, 0));
    }

    private static void p28Drawn() {
        KeptWell x = twoAtTheWell();
        due("no days", x.drawn(0, 1, 0, 5, 1), 0);
        due("no days: mood", x.drawn(2, 1, 0, 5, 2), 0);
        due("without mistakes", x.drawn(2, 1, 3, 9, 1), 7);
        due("mood of the first", x.drawn(2, 1, 3, 9, 2), 1);
        due("mood of the second", x.drawn(1, 2, 3, 9, 3), 1);
        x.mistakes(1, 2);
        // seed 1: 1103527590, bits 16..30: 16838 (even: a mistake); then 2524885223: 5758 (a mistake)
        due("two mistakes", x.drawn(2, 2, 1, 1, 2) + 2 * x.drawn(2, 2, 1, 1, 3), 3);
        due("what it brings", x.drawn(2, 2, 2, 1, 0), 4);
        due("a hundred days", x.drawn(1, 1, 100, -7, 0), 100);
        refused("way", INDEX, () -> x.drawn(4, 0, 101, 0, 9));
        refused("days", ARGUMENT, () -> x.drawn(0, 0, 101, 0, 9));
        refused("days", ARGUMENT, () -> x.drawn(0, 0, -1, 0, 0));
        refused("what", SUCH, () -> x.drawn(0, 0, 1, 0, 4));
        refused("what", SUCH, () -> x.drawn(0, 0, 1, 0, -1));
        x.acts(3);
        refused("three acts", STATE, () -> x.drawn(0, 0, 1, 0, 4));
        x.mistakes(0, 2);
        due("three acts without mistakes", x.drawn(0, 0, 1, 0, 1), 3);
        x.acts(2);
        way(x, "does 2");
        refused("barred", STATE, () -> x.drawn(4, 0, 1, 0, 4));
    }

    private static void p29to33Field() {
        KeptWell x = twoAtTheWell();
        x.rounds(3);
        due("good and good", x.meet(0, 0), 306);
        due("good and bad", x.meet(0, 1), 297);
        due("bad and good", x.meet(1, 0), 312);
        due("mirror and bad", x.meet(2, 1), 299);
        x.field(0, 1000);
        x.field(1, 1000);
        due("grow", x.grow(1), 1);
        due("the rest goes to the greatest rest", x.beings(0), 993);
        due("rounded down", x.beings(1), 1007);
        due("in all", x.count(8), 2000);
        due("no steps", x.grow(0), 0);
        x.field(0, 10);
        x.field(1, 10);
        due("nothing changes", x.grow(50), 0);
        x.field(0, 0);
        due("alone", x.grow(50), 0);
        due("alone", x.beings(1), 10);
        refused("way", INDEX, () -> x.field(4, 0));
        refused("number", ARGUMENT, () -> x.field(0, -1));
        refused("number", ARGUMENT, () -> x.field(0, 1001));
        refused("beings", INDEX, () -> x.beings(4));
        refused("rounds", ARGUMENT, () -> x.rounds(0));
        refused("rounds", ARGUMENT, () -> x.rounds(31));
        refused("steps", ARGUMENT, () -> x.grow(-1));
        refused("steps", ARGUMENT, () -> x.grow(51));
        refused("meet", INDEX, () -> x.meet(0, 4));
        way(x, "does 2");
        refused("meet", STATE, () -> x.meet(4, 0));
        refused("meet", STATE, () -> x.meet(0, 4));
        x.field(0, 1000);
        x.field(1, 1000);
        x.field(4, 500);
        x.grow(1);
        due("a barred one does not grow", x.beings(4), 500);
        due("nor does it meet", x.beings(0), 993);
        x.rounds(30);
        x.bring(0, 0, -99, 0);
        due("at least 0", x.meet(0, 0), 0);
        x.field(1, 0);
        due("0 together", x.grow(3), 0);
        due("0 together", x.beings(0), 993);
        KeptWell small = new KeptWell();
        way(small, GOOD);
        way(small, BAD);
        small.rounds(1);
        small.bring(0, 0, -98, 0);
        small.bring(0, 1, -99, 0);
        small.bring(1, 0, -99, 0);
        small.bring(1, 1, -99, 0);
        small.field(0, 1);
        small.field(1, 1);
        due("who fits 0 gets nothing", small.grow(2), 1);
        due("who fits 0 gets nothing", 10 * small.beings(0) + small.beings(1), 20);
        KeptWell same = new KeptWell();
        way(same, GOOD);
        way(same, GOOD);
        way(same, BAD);
        // of the three 1/2, 1/2 and 2
        same.bring(0, 0, -77, 0);
        same.bring(0, 1, -99, 0);
        same.bring(1, 0, -11, 0);
        same.bring(1, 1, -99, 0);
        same.field(0, 1);
        same.field(1, 1);
        same.field(2, 1);
        due("of several the lesser number", same.grow(1), 1);
        due("of several the lesser number", 100 * same.beings(0) + 10 * same.beings(1) + same.beings(2), 102);
        growToTheMost();
    }

    /** The other ways get next to nothing, so that nearly all beings come to the first one, again and again. */
    private static void growToTheMost() {
        KeptWell x = new KeptWell();
        for (int way = 0; way < 8; way++) {
            way(x, way == 0 ? GOOD : BAD);
        }
        x.rounds(30);
        x.bring(0, 0, 99, 0);
        x.bring(0, 1, 99, 0);
        x.bring(1, 0, -99, 0);
        x.bring(1, 1, -99, 0);
        x.field(0, 1000);
        for (int time = 1; time <= 59; time++) {
            for (int way = 1; way < 8; way++) {
                x.field(way, 1000);
            }
            due("a change", x.grow(1), 1);
        }
        due("all come to one", x.beings(0), 414000);
        due("none is lost", x.count(8), 414000);
        x.bring(1, 0, 98, 0);
        x.field(7, 1000);
        due("a change", x.grow(1), 1);
        // by its share it is due 992 and some, and has the greater rest
        due("one that gets nearly as much", x.beings(7), 993);
        due("none is lost", x.count(8), 415000);
    }

    private static void p34Stays() {
        KeptWell x = twoAtTheWell();
        due("the bad one stays", x.stays(1), true);
        due("the good one does not", x.stays(0), false);
        due("the mirror does not: the good one gets as much", x.stays(2), false);
        KeptWell y = new KeptWell();
        way(y, GOOD);
        due("alone it stays", y.stays(0), true);
        way(y, BAD);
        due("as much, and no more", y.stays(0), false);
        y.bring(0, 1, 1, 0);
        due("as much, and more against that one", y.stays(0), true);
        way(y, "does 2");
        due("against one that is barred", y.stays(0), true);
        refused("barred", STATE, () -> y.stays(2));
        refused("way", INDEX, () -> y.stays(3));
    }

    private static void p35All() {
        KeptWell x = twoAtTheWell();
        // a bad one: who is bad in both moods (16 of 64)
        due("hold with a bad one", x.all(1, 0), 16);
        due("the least", x.all(1, 3), 3);
        // bad in mood 0 and staying there, or going to a bad mood
        due("best against a bad one", x.all(1, 1), 16 + 8);
        due("the least", x.all(1, 2), 1);
        due("none holds with a good one that is left", x.all(0, 0), 0);
        due("none", x.all(0, 3), -1);
        refused("what", SUCH, () -> x.all(0, 4));
        refused("what", SUCH, () -> x.all(0, -1));
        refused("way", INDEX, () -> x.all(4, 4));
        way(x, "does 2");
        refused("barred", STATE, () -> x.all(4, 4));
        x.acts(3);
        refused("three acts", STATE, () -> x.all(0, 0));
        KeptWell three = new KeptWell();
        way(three, "does 0, any to 1; does 0, any to 2; does 0, 1 to 0");
        three.bring(0, 1, 0, 1);
        three.bring(0, 0, 0, 0);
        due("all bring the same or less", three.all(0, 1) > 0, true);
    }

    private static void p36Begin() {
        KeptWell x = twoAtTheWell();
        due("nothing is lost", x.begin(0, 0), 0);
        // bad against a mirror: 5 and 1 for ever: 6, then 2
        due("four", x.begin(1, 2), 4);
        due("of both", x.begin(2, 1), 4);
        x.bring(1, 1, 1, 2);
        // person 0: 6 above 2; rounded up by a third
        x.tomorrow(1, 4);
        // 5 and 1/4 of 4/3 above 4/3: 16/3 - 4/3
        due("four again", x.begin(1, 2), 4);
        x.bring(1, 0, 4, 0);
        x.tomorrow(2, 5);
        // 4 and 2/5 of 5/3 less 5/3: 3
        due("three", x.begin(1, 2), 3);
        way(x, "does 0, any to 1; does 0, any to 2; does 1");
        // a good one against it: 3, 3, then 0 for ever: 3 and 6/5
        due("rounded up", x.begin(0, 4), 5);
        refused("way", INDEX, () -> x.begin(0, 5));
        way(x, "does 2");
        refused("barred", STATE, () -> x.begin(5, 0));
    }

    private static void p37to39Village() {
        KeptWell x = new KeptWell();
        refused("cost", ARGUMENT, () -> x.villager(1000, 1));
        refused("cost", ARGUMENT, () -> x.villager(-1, 1));
        refused("gain", ARGUMENT, () -> x.villager(0, 0));
        refused("gain", ARGUMENT, () -> x.villager(0, 100));
        due("alone, cost above gain", x.villager(10, 4), 0);
        due("1 / 1", 10 * x.villageEdge(0, false) + x.villageEdge(0, true), 11);
        due("not held", x.village(1), 0);
        due("few", x.village(2), 1);
        due("another one", x.villager(6, 4), 1);
        due("6 / 4 is never", x.villageEdge(0, false), 1);
        due("1 / 2", 10 * x.villageEdge(1, false) + x.villageEdge(1, true), 12);
        due("weak", x.village(0), 0);
        due("few: both, for one alone is not held", x.village(2), 3);
        x.villager(6, 4);
        due("3 / 4", 10 * x.villageEdge(0, false) + x.villageEdge(0, true), 34);
        due("not held by 1 / 2", x.village(1), 0);
        due("few", x.village(2), 1);
        x.tomorrow(3, 4);
        due("not below", x.village(1), 1);
        due("few", x.village(2), 0);
        x.villager(3, 9);
        due("0 / 1", 10 * x.villageEdge(3, false) + x.villageEdge(3, true), 1);
        x.villager(9, 9);
        x.villager(0, 99);
        refused("a seventh", UNSUPPORTED, () -> x.villager(0, 1));
        refused("a seventh that is none", ARGUMENT, () -> x.villager(0, 0));
        refused("edge", INDEX, () -> x.villageEdge(6, false));
        refused("edge", INDEX, () -> x.villageEdge(-1, true));
        refused("what", SUCH, () -> x.village(3));
        refused("what", SUCH, () -> x.village(-1));
        KeptWell y = new KeptWell();
        y.villager(5, 5);
        due("alone, no cost above gain", 10 * y.villageEdge(0, false) + y.villageEdge(0, true), 1);
        due("held", y.village(1), 1);
        y.villager(10, 5);
        due("1 or more is never", 10 * y.villageEdge(1, false) + y.villageEdge(1, true), 11);
        due("weak", y.village(0), 1);
        y.villager(30, 5);
        due("weak, of several the least", y.village(0), 2);
        y.villager(30, 5);
        due("weak, of several the least", y.village(0), 2);
    }

    private static void p40p41Image() {
        KeptWell x = twoAtTheWell();
        x.field(0, 7);
        x.villager(5, 5);
        row(x, 0, 0, 1, 1);
        x.image();
        x.acts(3);
        x.bring(0, 0, 50, 50);
        x.tomorrow(8, 9);
        x.mistakes(3, 7);
        x.rounds(29);
        x.field(0, 8);
        x.villager(1, 1);
        row(x, 2, 2, 2, 2, 2, 2);
        way(x, "does 2");
        put(x, "does 7");
        refused("a wrong text", ARGUMENT, () -> x.way());
        put(x, "does 1;does 0");
        due("back", x.back(), true);
        int[] counts = {2, 4, 0, 1, 2, 0, 1, 2, 7, 10, 1, 4};
        for (int what = 0; what < counts.length; what++) {
            due("as it was: count " + what, x.count(what), counts[what]);
        }
        due("as it was: brought", x.brought(0), 4);
        due("as it was: worth", x.worth(0, 0, 0, 0, 0, false), 6);
        due("fault is not of it", x.fault(), 5);
        due("the tape is not of it", x.way(), 4);
        due("its moods", x.mood(4, 0, 0), 2);
        due("back once more", x.back(), true);
        due("as it was", x.count(1), 4);
    }

    private static void p42Count() {
        KeptWell x = twoAtTheWell();
        x.acts(3);
        way(x, "does 0; does 2");
        due("barred with three", x.count(2), 0);
        x.acts(2);
        due("barred with two", x.count(2), 1);
        due("ways", x.count(1), 5);
        x.mistakes(2, 5);
        due("e", x.count(5), 2);
        due("f", x.count(6), 5);
        x.rounds(30);
        due("rounds", x.count(9), 30);
        due("another", x.count(12), -1);
        due("another", x.count(-1), -1);
        due("another", x.count(Integer.MIN_VALUE), -1);
    }
}
