/** Promises 23 to 28, MISTAKES, ROWS of days and days that are DRAWN: each sentence that names a boundary. */
public final class Boundaries23To28Test extends Checks {
    public static void main(String[] args) {
        run(Boundaries23To28Test.class);
    }

    // ---- promise 23: mistakes ----

    @Says({"MISTAKES.", "MISTAKES: each ACT is seen otherwise with a chance E / F (0 <= E < F <= 9;"})
    static void p23_allChancesBelowOneWithFUpToNine() {
        KeptWell x = new KeptWell();
        for (int f = 1; f <= 9; f++) {
            for (int e = 0; e < f; e++) {
                x.mistakes(e, f);
                due("E of " + e + "/" + f, x.count(5), e);
                due("F of " + e + "/" + f, x.count(6), f);
            }
        }
    }

    @Says("IllegalArgumentException: they are none.")
    static void p23_chancesThatAreNoneAreRefused() {
        int[][] none = {{-1, 2}, {-1, 9}, {0, 0}, {1, 1}, {9, 9}, {2, 1}, {9, 8}, {0, 10}, {9, 10}, {1, 10}, {0, -1}, {-2, -1},
            {-1, -1}, {FAR[0], 9}, {FAR[1], 9}, {0, FAR[0]}, {0, FAR[1]}, {FAR[0], FAR[1]}, {FAR[1], FAR[0]}};
        for (int[] ef : none) {
            refusedAndNothingChanges("mistakes " + ef[0] + " / " + ef[1], ARGUMENT, Checks::full,
                    x -> x.mistakes(ef[0], ef[1]));
        }
    }

    @Says("MISTAKES: each ACT is seen otherwise with a chance E / F")
    static void p23_theyMayBeToldWithThreeActsToo() {
        KeptWell x = twoAtTheWell();
        x.acts(3);
        x.mistakes(1, 2);
        x.acts(2);
        dueDoubt("two grim ones", x, 3, 3, 0, false, 34, 7);
    }

    // ---- promise 24: doubt ----

    private static void dueDoubt(String what, KeptWell x, int a, int b, int person, boolean cost, long up, long down) {
        due(what + ", above", x.doubt(a, b, person, cost, false), up);
        due(what + ", below", x.doubt(a, b, person, cost, true), down);
    }

    @Says({"DOUBTED WORTH (cost false), or COST, to a person.", "what is to be awaited, from MOODS 0: a FRACTION.",
        "COST: the WORTH without mistakes less it."})
    static void p24_twoGrimOnesByHalves() {
        KeptWell x = twoAtTheWell();
        x.mistakes(1, 2);
        // from MOODS 0 1, 1 0 and 1 1 on 2 / 3, 22 / 3 and 2
        for (int person = 0; person < 2; person++) {
            dueDoubt("DOUBTED WORTH", x, 3, 3, person, false, 34, 7);
            dueDoubt("COST", x, 3, 3, person, true, 8, 7);
        }
        x.mistakes(4, 8);
        dueDoubt("by 4 / 8", x, 3, 3, 0, false, 34, 7);
    }

    @Says({"by each eye for itself;", "(one sees the other ACT then)."})
    static void p24_eachEyeForItself() {
        KeptWell x = twoAtTheWell();
        x.mistakes(1, 3);
        // the mirror takes good for bad on a third of all days, and is bad on the next day then
        dueDoubt("the mirror's", x, 2, 0, 0, false, 20, 3);
        dueDoubt("the good one's", x, 2, 0, 1, false, 5, 1);
        dueDoubt("the good one's", x, 0, 2, 0, false, 5, 1);
        dueDoubt("the mirror's", x, 0, 2, 1, false, 20, 3);
        dueDoubt("the mirror's COST, below 0", x, 2, 0, 0, true, -2, 3);
        dueDoubt("the good one's COST", x, 2, 0, 1, true, 1, 1);
    }

    @Says("(0 <= E < F <= 9;")
    static void p24_withoutMistakesAndWithTheMost() {
        KeptWell x = twoAtTheWell();
        for (int f = 1; f <= 9; f += 4) {
            x.mistakes(0, f);
            dueDoubt("E 0", x, 3, 0, 0, false, 6, 1);
            dueDoubt("E 0: no COST", x, 3, 0, 0, true, 0, 1);
        }
        x.mistakes(8, 9);
        dueDoubt("8 / 9", x, 3, 0, 0, false, 134, 17);
        dueDoubt("8 / 9, the good one", x, 3, 0, 1, false, 54, 17);
        dueDoubt("8 / 9, COST", x, 3, 0, 0, true, -32, 17);
        dueDoubt("8 / 9, the good one's COST", x, 3, 0, 1, true, 48, 17);
    }

    @Says({"DOUBTED WORTH of a PAIR of WAYS with 2 MOODS at most:", "what is to be awaited, from MOODS 0:"})
    static void p24_fromMoodsZeroAndWithOneMood() {
        KeptWell x = twoAtTheWell();
        way(x, "does 1; does 0");
        x.mistakes(1, 2);
        dueDoubt("one MOOD each", x, 0, 1, 1, false, 10, 1);
        dueDoubt("one MOOD each: no COST", x, 0, 1, 1, true, 0, 1);
        dueDoubt("a MOOD never come to", x, 4, 4, 0, false, 2, 1);
        dueDoubt("one MOOD and two", x, 0, 4, 0, false, 0, 1);
        dueDoubt("two MOODS and one", x, 4, 0, 0, false, 10, 1);
    }

    @Says({"DOUBTED WORTH of a PAIR of WAYS with 2 MOODS at most:", "or it is asked with 2 ACTS (MOODS) alone and there are more."})
    static void p24_threeMoodsAreRefused() {
        refusedAndNothingChanges("three", STATE, Checks::full, x -> x.doubt(3, 0, 0, false, false));
        refusedAndNothingChanges("three of the other one", STATE, Checks::full, x -> x.doubt(0, 3, 1, true, true));
        KeptWell x = full();
        x.mistakes(0, 1);
        refused("three, without mistakes", STATE, () -> x.doubt(3, 3, 0, false, false));
        x.doubt(1, 1, 0, false, false);
    }

    @Says({"only with 2 ACTS", "or it is asked with 2 ACTS (MOODS) alone and there are more."})
    static void p24_threeActsAreRefused() {
        refusedAndNothingChanges("three ACTS", STATE, Checks::fullWithThreeActs, x -> x.doubt(0, 0, 0, false, false));
        KeptWell x = fullWithThreeActs();
        x.mistakes(0, 1);
        refused("three ACTS, without mistakes", STATE, () -> x.doubt(0, 0, 0, false, false));
        x.acts(2);
        x.doubt(0, 0, 0, false, false);
    }

    @Says({"to a person. IllegalStateException.", "IllegalStateException: a WAY is BARRED,"})
    static void p24_aBarredWayIsRefused() {
        refusedAndNothingChanges("BARRED", STATE, Checks::full, x -> x.doubt(2, 0, 0, false, false));
        refusedAndNothingChanges("the other one BARRED", STATE, Checks::full, x -> x.doubt(0, 2, 0, true, false));
    }

    @Says({"IndexOutOfBoundsException: there is no such person, ACT, WAY,", "Of several exceptions the one told first is thrown;"})
    static void p24_noSuchWayOrPersonAlsoAheadOfOthers() {
        int[] none = {-1, 4, FAR[0], FAR[1]};
        for (int n : none) {
            refusedAndNothingChanges("WAY " + n, INDEX, Checks::full, x -> x.doubt(n, 0, 0, false, false));
            refusedAndNothingChanges("the other WAY " + n, INDEX, Checks::full, x -> x.doubt(0, n, 0, false, false));
            refusedAndNothingChanges("person " + n, INDEX, Checks::full, x -> x.doubt(0, 0, n, false, false));
        }
        KeptWell x = full();
        refused("person 2", INDEX, () -> x.doubt(0, 0, 2, true, true));
        refused("no WAY, BARRED", INDEX, () -> x.doubt(2, 4, 0, false, false));
        refused("no person, BARRED", INDEX, () -> x.doubt(2, 0, 2, false, false));
        refused("no person, three MOODS", INDEX, () -> x.doubt(3, 3, -1, false, false));
        KeptWell y = fullWithThreeActs();
        refused("no WAY, three ACTS", INDEX, () -> y.doubt(0, 4, 0, false, false));
        refused("no person, three ACTS", INDEX, () -> y.doubt(0, 0, 2, false, false));
    }

    @Says("what is to be awaited, from MOODS 0: a FRACTION.")
    static void p24_throughAllFourPairsOfMoods() {
        KeptWell x = twoAtTheWell();
        x.mistakes(1, 3);
        dueDoubt("two mirrors, 1 / 2 and 1 / 3", x, 2, 2, 0, false, 462, 85);
        dueDoubt("a mirror and a grim one", x, 2, 3, 0, false, 129, 26);
        dueDoubt("a mirror and a grim one, to the grim one", x, 2, 3, 1, false, 72, 13);
        dueDoubt("its COST", x, 2, 3, 1, true, 6, 13);
        x.tomorrow(3, 4);
        x.mistakes(1, 9);
        dueDoubt("two mirrors, 3 / 4 and 1 / 9", x, 2, 2, 1, false, 3228, 295);
        dueDoubt("a mirror and a grim one", x, 2, 3, 0, false, 4807, 516);
        dueDoubt("a mirror and a grim one, to the grim one", x, 2, 3, 1, false, 1343, 129);
        KeptWell y = game(1, 0, 2, -5, 3, 0, 4, 7);
        ways(y, "does 0, any to 1; does 1, 0 to 0", "does 1, 0 to 1; does 0, 0 to 1, 1 to 0");
        y.tomorrow(2, 3);
        y.mistakes(1, 4);
        dueDoubt("2 / 3 and 1 / 4", y, 0, 1, 0, false, 649, 82);
        dueDoubt("2 / 3 and 1 / 4, to person 1", y, 0, 1, 1, false, -239, 82);
        y.tomorrow(3, 5);
        y.mistakes(2, 3);
        dueDoubt("3 / 5 and 2 / 3", y, 0, 1, 0, false, 603, 92);
        dueDoubt("3 / 5 and 2 / 3, to person 1", y, 0, 1, 1, false, -95, 92);
    }

    @Says("a FRACTION.")
    static void p24_theLongestFraction() {
        KeptWell x = game(99, -99, -98, 99, 97, -99, -99, 98);
        ways(x, "does 0, 0 to 1; does 1, 1 to 0", "does 1, 1 to 1; does 0, 0 to 0");
        x.tomorrow(8, 9);
        x.mistakes(4, 9);
        dueDoubt("to person 0", x, 0, 1, 0, false, -5825826, 52633);
        dueDoubt("to person 1", x, 0, 1, 1, false, 5676579, 52633);
        long up = x.doubt(0, 1, 0, false, false);
        long down = x.doubt(0, 1, 0, false, true);
        long worthUp = x.worth(0, 0, 1, 0, 0, false);
        long worthDown = x.worth(0, 0, 1, 0, 0, true);
        java.math.BigInteger common = java.math.BigInteger.valueOf(up).gcd(java.math.BigInteger.valueOf(down));
        due("no common part", common.longValue(), 1);
        due("the lower one above 0", down > 0, true);
        java.math.BigInteger cost = java.math.BigInteger.valueOf(worthUp).multiply(java.math.BigInteger.valueOf(down))
                .subtract(java.math.BigInteger.valueOf(up).multiply(java.math.BigInteger.valueOf(worthDown)));
        java.math.BigInteger under = java.math.BigInteger.valueOf(worthDown).multiply(java.math.BigInteger.valueOf(down));
        java.math.BigInteger part = cost.gcd(under);
        dueDoubt("COST", x, 0, 1, 0, true, cost.divide(part).longValueExact(), under.divide(part).longValueExact());
    }

    // ---- promise 25: row ----

    @Says({"A ROW of days: told by the TAPE: two bytes a day,", "how many days."})
    static void p25_noneOneAndTwoHundredDays() {
        KeptWell x = new KeptWell();
        due("none", row(x), 0);
        due("one", row(x, 0, 2), 1);
        due("days", x.count(7), 1);
        for (int i = 0; i < 20; i++) {
            x.feed(0x00010001, 0x00010001, 0x00010001, 0x00010001, 0x00010001);
        }
        due("two hundred", x.row(), 200);
        due("days", x.count(7), 200);
    }

    @Says("a ROW, in place of the one before:")
    static void p25_inPlaceOfTheOneBefore() {
        KeptWell x = twoAtTheWell();
        row(x, 0, 0, 0, 0, 1, 1);
        row(x, 1, 0);
        due("days", x.count(7), 1);
        due("BROUGHT", x.brought(0), 5);
        due("JUDGED", x.judge(1, 0), -1);
        row(x);
        due("days", x.count(7), 0);
        due("BROUGHT", x.brought(0), 0);
        row(x, 1, 1, 0, 0);
        due("BROUGHT", x.brought(0), 4);
        due("JUDGED", x.judge(1, 1), 2);
    }

    @Says({"the ACTS that were done (0 to 2 as numbers).", "IllegalArgumentException: a byte is no ACT,"})
    static void p25_bytesThatAreNoAct() {
        int[] none = {3, 4, 32, '0', '2', 127, 128, 255};
        for (int act : none) {
            KeptWell x = twoAtTheWell();
            row(x, 1, 1);
            put(x, days(act, 0));
            refused("the first byte " + act, ARGUMENT, () -> x.row());
            put(x, days(0, 0, 0, act));
            refused("the last byte " + act, ARGUMENT, () -> x.row());
            due("the ROW before stays", x.count(7), 1);
            due("the ROW before stays", x.brought(0), 1);
        }
        KeptWell x = new KeptWell();
        due("2 is an ACT of a ROW also with two ACTS", row(x, 2, 1, 0, 2), 2);
        x.acts(3);
        put(x, days(0, 3));
        refused("3 is none also with three", ARGUMENT, () -> x.row());
    }

    @Says("or one is left.")
    static void p25_aByteThatIsLeft() {
        KeptWell x = twoAtTheWell();
        row(x, 1, 1);
        put(x, days(0));
        refused("one byte", ARGUMENT, () -> x.row());
        put(x, days(0, 0, 0));
        refused("three bytes", ARGUMENT, () -> x.row());
        due("the ROW before stays", x.count(7), 1);
        for (int i = 0; i < 20; i++) {
            x.feed(0, 0, 0, 0, 0);
        }
        x.end(399);
        refused("399 bytes", ARGUMENT, () -> x.row());
        due("the ROW before stays", x.brought(0), 1);
    }

    @Says({"Uses the TAPE up:", "but the TAPE, where it is used up,"})
    static void p25_theTapeIsUsedUpAlsoByOneThatIsRefused() {
        KeptWell x = new KeptWell();
        row(x, 0, 1, 0, 1);
        due("by a ROW", tapeHas(x, 0), true);
        put(x, days(0, 3));
        refused("no ACT", ARGUMENT, () -> x.row());
        due("by a byte that is no ACT", tapeHas(x, 0), true);
        put(x, days(0, 1, 0));
        refused("one left", ARGUMENT, () -> x.row());
        due("by a byte that is left", tapeHas(x, 0), true);
        due("a ROW of no days", x.row(), 0);
    }

    @Says("a call that throws changes nothing")
    static void p25_aRefusedRowChangesNothingElse() {
        KeptWell x = full();
        x.end(0);
        put(x, days(0, 0, 1));
        refused("one left", ARGUMENT, () -> x.row());
        KeptWell y = full();
        y.end(0);
        dueText("after a wrong ROW", Looks.all(x), Looks.all(y));
        KeptWell z = full();
        z.end(0);
        put(z, days(3, 0));
        refused("no ACT", ARGUMENT, () -> z.row());
        dueText("after another", Looks.all(z), Looks.all(emptyTape()));
    }

    private static KeptWell emptyTape() {
        KeptWell x = full();
        x.end(0);
        return x;
    }

    // ---- promise 26: judge ----

    @Says({"JUDGED; NONE.", "(0, if none is told).", "JUDGED for a PAIR from MOODS 0 on: the first day (from 0 on) on which a person did not as its WAY says",
        "2 times the day and the person; none."})
    static void p26_theDayAndThePerson() {
        KeptWell x = twoAtTheWell();
        due("without a ROW", x.judge(0, 1), -1);
        row(x);
        due("of no days", x.judge(0, 1), -1);
        row(x, 0, 1);
        due("as both say", x.judge(0, 1), -1);
        due("person 0 on day 0", x.judge(1, 1), 0);
        due("person 1 on day 0", x.judge(0, 0), 1);
        due("both on day 0", x.judge(1, 0), 0);
        row(x, 0, 0, 0, 0, 1, 0);
        due("person 0 on day 2", x.judge(0, 0), 4);
        row(x, 0, 0, 0, 0, 0, 1, 1, 0);
        due("person 1 on day 2", x.judge(0, 0), 5);
        row(x, 0, 0, 1, 1, 0, 1);
        due("both on day 1", x.judge(0, 0), 2);
    }

    @Says("2 times the day and the person; none.")
    static void p26_theLastOfTwoHundredDays() {
        KeptWell x = twoAtTheWell();
        for (int i = 0; i < 20; i++) {
            x.feed(0, 0, 0, 0, i == 19 ? 1 : 0);
        }
        x.row();
        due("person 1 on day 199", x.judge(0, 0), 399);
        for (int i = 0; i < 20; i++) {
            x.feed(0, 0, 0, 0, i == 19 ? 256 : 0);
        }
        x.row();
        due("person 0 on day 199", x.judge(0, 0), 398);
        for (int i = 0; i < 20; i++) {
            x.feed(0, 0, 0, 0, 0);
        }
        x.row();
        due("none of 200 days", x.judge(0, 0), -1);
    }

    @Says("(then all goes on by what was done):")
    static void p26_moodsGoByWhatWasDone() {
        KeptWell x = twoAtTheWell();
        row(x, 0, 1, 1, 0, 0, 1);
        due("a mirror of what is done by turns", x.judge(2, 1), 3);
        row(x, 0, 1, 1, 1, 1, 0, 0, 0);
        due("person 1 good again on day 2", x.judge(2, 1), 5);
        row(x, 0, 1, 1, 1, 1, 1, 0, 1);
        due("a mirror good too early", x.judge(2, 1), 6);
        row(x, 0, 1, 1, 1, 1, 1);
        due("a mirror and a bad one", x.judge(2, 1), -1);
        due("a grim one and a bad one", x.judge(3, 1), -1);
        row(x, 1, 0, 1, 1, 1, 1);
        due("a bad one and a mirror", x.judge(1, 2), -1);
    }

    @Says({"IllegalStateException: a WAY is BARRED, or the ROW has ACTS that are none now.", "IllegalStateException: a WAY is BARRED,"})
    static void p26_aBarredWayOrActsThatAreNoneNow() {
        // a full object's ROW has ACT 2
        refusedAndNothingChanges("ACTS that are none", STATE, Checks::full, x -> x.judge(0, 0));
        KeptWell x = twoAtTheWell();
        way(x, "does 2");
        row(x, 0, 0);
        refused("BARRED", STATE, () -> x.judge(4, 0));
        refused("the other one BARRED", STATE, () -> x.judge(0, 4));
        int[][] rows = {{2, 0}, {0, 2}, {1, 1, 0, 2}, {1, 1, 2, 1}};
        for (int[] done : rows) {
            row(x, done);
            refused("ACT 2 also behind the first otherwise", STATE, () -> x.judge(0, 0));
        }
        x.acts(3);
        due("with three ACTS", x.judge(4, 0), 0);
        row(x, 2, 0);
        due("with three ACTS", x.judge(4, 0), -1);
        x.acts(2);
        row(x, 0, 0);
        due("a ROW without it", x.judge(0, 0), -1);
    }

    @Says("or the ROW has ACTS that are none now.")
    static void p26_bytesBehindTheRowAreNoActsOfIt() {
        KeptWell x = twoAtTheWell();
        x.feed(0x00000202, 0x02020202, 0x02020202, 0x02020202, 0x02020202);
        x.end(2);
        due("a ROW of one day", x.row(), 1);
        due("JUDGED", x.judge(0, 0), -1);
        row(x, 0, 0, 2, 2);
        row(x, 0, 0);
        due("behind a longer ROW", x.judge(0, 0), -1);
    }

    @Says({"IndexOutOfBoundsException: there is no such person, ACT, WAY,", "Of several exceptions the one told first is thrown;"})
    static void p26_noSuchWayAlsoAheadOfOthers() {
        int[] none = {-1, 4, 8, FAR[0], FAR[1]};
        for (int n : none) {
            refusedAndNothingChanges("WAY " + n, INDEX, Checks::full, x -> x.judge(n, 2));
            refusedAndNothingChanges("the other WAY " + n, INDEX, Checks::full, x -> x.judge(2, n));
        }
    }

    // ---- promise 27: brought ----

    @Says("BROUGHT: what a ROW brought a person in all.")
    static void p27_inAll() {
        KeptWell x = game(99, -99, 1, 2, 3, 4, 5, 6);
        due("without a ROW", x.brought(0), 0);
        row(x);
        due("of no days", x.brought(1), 0);
        row(x, 0, 0, 0, 1, 1, 0, 1, 1);
        due("person 0", x.brought(0), 108);
        due("person 1", x.brought(1), -87);
        for (int i = 0; i < 20; i++) {
            x.feed(0, 0, 0, 0, 0);
        }
        x.row();
        due("the most", x.brought(0), 19800);
        due("the least", x.brought(1), -19800);
        x.bring(0, 0, 1, 0);
        due("by what is told now", x.brought(0), 200);
    }

    @Says("BROUGHT (ACT 2 counts, as it was told, also if there are 2).")
    static void p27_actTwoCountsAlsoIfThereAreTwo() {
        KeptWell x = new KeptWell();
        x.acts(3);
        x.bring(2, 0, 7, -7);
        x.bring(0, 2, 20, -20);
        x.bring(2, 2, 50, -50);
        x.acts(2);
        row(x, 2, 0, 0, 2, 2, 2, 0, 0);
        due("person 0", x.brought(0), 77);
        due("person 1", x.brought(1), -77);
        KeptWell y = new KeptWell();
        row(y, 2, 2);
        due("never told", y.brought(0), 0);
    }

    @Says({"BROUGHT", "IndexOutOfBoundsException: there is no such person,"})
    static void p27_noSuchPerson() {
        int[] none = {-1, 2, FAR[0], FAR[1]};
        for (int n : none) {
            refusedAndNothingChanges("person " + n, INDEX, Checks::full, x -> x.brought(n));
        }
    }

    // ---- promise 28: drawn ----

    /** Day by day from the first on: MOODS at the end of both, what it brought both. */
    private static void dueDays(String what, KeptWell x, int seed, int[]... days) {
        for (int day = 0; day < days.length; day++) {
            String by = what + ", days " + (day + 1);
            due(by + ", MOOD of person 0", x.drawn(2, 2, day + 1, seed, 2), days[day][0]);
            due(by + ", MOOD of person 1", x.drawn(2, 2, day + 1, seed, 3), days[day][1]);
            due(by + ", to person 0", x.drawn(2, 2, day + 1, seed, 0), days[day][2]);
            due(by + ", to person 1", x.drawn(2, 2, day + 1, seed, 1), days[day][3]);
        }
    }

    private static int[] day(int moodA, int moodB, int toA, int toB) {
        return new int[] {moodA, moodB, toA, toB};
    }

    @Says({"DRAWN: what it brings a person (0, 1), or 2, 3 the MOODS of both at the end.",
        "each day, person by person, the eye of person 0, then that of person 1:",
        "SEED is 1103515245 times SEED and 12345, as an int that goes round;", "What it brings a person; MOODS at the end."})
    static void p28_twoMirrorsFromSeedOne() {
        // bits 16 to 30: 16838, 5758, 10113, 17515, 31051, 5627, 23010, 7419, 16212, 4086
        KeptWell x = twoAtTheWell();
        x.mistakes(1, 2);
        dueDays("1 / 2", x, 1, day(1, 1, 3, 3), day(1, 1, 4, 4), day(1, 1, 5, 5), day(0, 1, 6, 6), day(0, 1, 6, 11));
        x.mistakes(1, 3);
        dueDays("1 / 3", x, 1, day(0, 0, 3, 3), day(1, 0, 6, 6), day(0, 1, 11, 6), day(0, 1, 11, 11), day(0, 1, 11, 16));
        x.mistakes(2, 3);
        dueDays("2 / 3", x, 1, day(0, 1, 3, 3), day(0, 1, 3, 8), day(0, 0, 3, 13), day(1, 1, 6, 16), day(0, 0, 7, 17));
    }

    @Says({"bits 16 to 30 of it modulo F, below E: a mistake", "as an int that goes round;"})
    static void p28_seedsThatGoRound() {
        KeptWell x = twoAtTheWell();
        // from -1: 15929, 4409, 9862, 26718, ..; from 0 and the least: 0, 21468, 9988, 22117, ..
        x.mistakes(4, 5);
        dueDays("-1", x, -1, day(0, 0, 3, 3), day(1, 1, 6, 6), day(0, 0, 7, 7), day(1, 1, 10, 10), day(0, 1, 11, 11));
        x.mistakes(1, 2);
        dueDays("0", x, 0, day(1, 1, 3, 3), day(0, 1, 4, 4), day(0, 0, 4, 9), day(0, 0, 7, 12), day(1, 1, 10, 15));
        x.mistakes(3, 7);
        dueDays("the least", x, FAR[0], day(1, 0, 3, 3), day(0, 1, 8, 3), day(1, 1, 8, 8), day(0, 0, 9, 9), day(0, 0, 12, 12));
        x.mistakes(8, 9);
        dueDays("the greatest", x, FAR[1], day(0, 0, 3, 3), day(1, 1, 6, 6), day(0, 0, 7, 7), day(0, 1, 10, 10), day(0, 0, 10, 15));
    }

    @Says("DRAWN: a PAIR for so many days (0 to 100) by a SEED:")
    static void p28_noDaysAndAHundred() {
        KeptWell x = twoAtTheWell();
        x.mistakes(1, 2);
        for (int what = 0; what < 4; what++) {
            due("no days, what " + what, x.drawn(2, 2, 0, 1, what), 0);
        }
        int[] due = {204, 219, 1, 0};
        for (int what = 0; what < 4; what++) {
            due("a hundred days, what " + what, x.drawn(2, 2, 100, 1, what), due[what]);
        }
        KeptWell y = game(99, -99, 0, 0, 0, 0, 0, 0);
        way(y, GOOD);
        due("the most", y.drawn(0, 0, 100, 0, 0), 9900);
        due("the least", y.drawn(0, 0, 100, 0, 1), -9900);
    }

    @Says("(E 0: nothing is drawn).")
    static void p28_withoutMistakesNothingIsDrawn() {
        KeptWell x = twoAtTheWell();
        for (int f = 1; f <= 9; f++) {
            x.mistakes(0, f);
            due("two mirrors", x.drawn(2, 2, 100, f, 0), 300);
            due("MOOD", x.drawn(2, 1, 3, f, 2), 1);
            due("a mirror and a bad one", x.drawn(2, 1, 3, f, 0), 2);
        }
    }

    @Says("IllegalArgumentException: the days are none;")
    static void p28_daysThatAreNone() {
        int[] none = {-1, 101, FAR[0], FAR[1]};
        for (int days : none) {
            refusedAndNothingChanges("days " + days, ARGUMENT, Checks::full, x -> x.drawn(0, 0, days, 0, 0));
        }
    }

    @Says({"IllegalStateException (with E above 0 and 3 ACTS, too);", "IllegalStateException: a WAY is BARRED,"})
    static void p28_barredOrMistakesWithThreeActs() {
        refusedAndNothingChanges("BARRED", STATE, Checks::full, x -> x.drawn(2, 0, 1, 0, 0));
        refusedAndNothingChanges("the other one BARRED", STATE, Checks::full, x -> x.drawn(0, 2, 1, 0, 0));
        refusedAndNothingChanges("three ACTS", STATE, Checks::fullWithThreeActs, x -> x.drawn(0, 0, 1, 0, 0));
        refusedAndNothingChanges("three ACTS, no days", STATE, Checks::fullWithThreeActs, x -> x.drawn(0, 0, 0, 0, 3));
        KeptWell x = fullWithThreeActs();
        x.mistakes(0, 4);
        due("E 0 with three ACTS: 18 a day", x.drawn(2, 2, 10, 0, 0), 180);
        due("E 0 with three ACTS: 3 MOODS", x.drawn(3, 2, 10, 0, 2), 0);
    }

    @Says("NoSuchElementException: another what.")
    static void p28_anotherWhat() {
        int[] none = {-1, 4, FAR[0], FAR[1]};
        for (int what : none) {
            refusedAndNothingChanges("what " + what, SUCH, Checks::full, x -> x.drawn(0, 0, 1, 0, what));
        }
    }

    @Says("IndexOutOfBoundsException: there is no such person, ACT, WAY,")
    static void p28_noSuchWay() {
        int[] none = {-1, 4, 8, FAR[0], FAR[1]};
        for (int n : none) {
            refusedAndNothingChanges("WAY " + n, INDEX, Checks::full, x -> x.drawn(n, 0, 1, 0, 0));
            refusedAndNothingChanges("the other WAY " + n, INDEX, Checks::full, x -> x.drawn(0, n, 1, 0, 0));
        }
    }

    @Says("Of several exceptions the one told first is thrown;")
    static void p28_wayAheadOfDaysAheadOfBarredAheadOfWhat() {
        KeptWell x = full();
        refused("no WAY, no days, BARRED, another what", INDEX, () -> x.drawn(2, 4, 101, 0, 4));
        refused("no days, BARRED, another what", ARGUMENT, () -> x.drawn(2, 0, 101, 0, 4));
        refused("no days, another what", ARGUMENT, () -> x.drawn(0, 0, -1, 0, -1));
        refused("BARRED, another what", STATE, () -> x.drawn(0, 2, 100, 0, 4));
        KeptWell y = fullWithThreeActs();
        refused("three ACTS, another what", STATE, () -> y.drawn(0, 0, 100, 0, 4));
        refused("no days, three ACTS", ARGUMENT, () -> y.drawn(0, 0, 101, 0, 0));
    }
}
