/** Promises 15 to 22, one day, THE BODY, MILD, EDGE and TOGETHER: each sentence that names a boundary. */
public final class Boundaries15To22Test extends Checks {
    public static void main(String[] args) {
        run(Boundaries15To22Test.class);
    }

    /** Three ACTS; of the nine pairs of ACTS in a row what they bring person 0, and person 1. */
    private static KeptWell three(int... brings) {
        KeptWell x = new KeptWell();
        x.acts(3);
        for (int cell = 0; 2 * cell < brings.length; cell++) {
            x.bring(cell / 3, cell % 3, brings[2 * cell], brings[2 * cell + 1]);
        }
        return x;
    }

    // ---- promise 15: least ----

    @Says({"LEAST by ACTS (threat false), or THREAT.", "LEAST: what a person can be held to on one day: by ACTS: the least,",
        "over ACTS of the other one, of the most that its own ACTS bring then;"})
    static void p15_theLeastOfTheMost() {
        // the most of person 0: 6 against ACT 0, 5 against ACT 1; of person 1: 8 against ACT 0, 9 against ACT 1
        KeptWell x = game(6, 7, -4, 8, 2, 9, 5, -9);
        due("LEAST of person 0", x.least(0, false), 5);
        due("THREAT to person 0", x.least(0, true), 1);
        due("LEAST of person 1", x.least(1, false), 8);
        due("THREAT to person 1", x.least(1, true), 0);
    }

    @Says("THREAT: the ACT of the other one (of several the least).")
    static void p15_ofSeveralThreatsTheLeast() {
        KeptWell x = new KeptWell();
        due("all the same", x.least(0, true), 0);
        x.acts(3);
        due("all the same of three", x.least(1, true), 0);
        // person 0: 3, 2 and 2; person 1: 1, 1 and 4
        KeptWell y = three(3, 1, 2, 0, 2, 0, 0, 1, 0, 0, 0, 0, 0, 4, 0, 0, 0, 0);
        due("1 and 2", y.least(0, true), 1);
        due("0 and 1", y.least(1, true), 0);
        due("LEAST", y.least(0, false), 2);
        due("LEAST", y.least(1, false), 1);
    }

    @Says("over ACTS of the other one, of the most that its own ACTS bring then;")
    static void p15_actTwoCountsAmongThreeAlone() {
        KeptWell x = three(5, 5, 5, 5, -9, -9, 5, 5, 5, 5, -9, -9, -9, -9, -9, -9, -9, -9);
        due("LEAST", x.least(0, false), -9);
        due("THREAT", x.least(0, true), 2);
        due("LEAST of person 1", x.least(1, false), -9);
        x.acts(2);
        due("LEAST of two", x.least(0, false), 5);
        due("THREAT of two", x.least(0, true), 0);
        x.acts(3);
        x.bring(2, 2, 7, -9);
        due("its own ACT 2", x.least(0, false), 5);
    }

    @Says("IndexOutOfBoundsException: there is no such person,")
    static void p15_noSuchPerson() {
        int[] none = {-1, 2, FAR[0], FAR[1]};
        for (int n : none) {
            refusedAndNothingChanges("LEAST of person " + n, INDEX, Checks::full, x -> x.least(n, false));
            refusedAndNothingChanges("THREAT to person " + n, INDEX, Checks::full, x -> x.least(n, true));
        }
    }

    // ---- promise 16: lots ----

    private static void dueLots(String what, KeptWell x, int person, long up, long down) {
        due(what + ", above", x.lots(person, false), up);
        due(what + ", below", x.lots(person, true), down);
    }

    @Says({"LEAST by LOTS, above or below.", "By LOTS: the other one draws its ACT by chances:",
        "the value of the game in which it wants least and the person most: a FRACTION."})
    static void p16_byChancesOfTwoActs() {
        dueLots("1 and 2", game(1, 0, 0, 0, 0, 0, 2, 0), 0, 2, 3);
        dueLots("below 0", game(-1, 0, 0, 0, 0, 0, -2, 0), 0, -2, 3);
        dueLots("coins", game(1, -1, -1, 1, -1, 1, 1, -1), 0, 0, 1);
        dueLots("coins, person 1", game(1, -1, -1, 1, -1, 1, 1, -1), 1, 0, 1);
        dueLots("person 1 with its own ACTS", game(0, 3, 0, 0, 0, 1, 0, 2), 1, 3, 2);
        // 99 and -99, -98 and 99
        dueLots("the farthest", game(99, 0, -99, 0, -98, 0, 99, 0), 0, 99, 395);
    }

    @Says("the value of the game in which it wants least and the person most: a FRACTION.")
    static void p16_whereOneActIsBestItIsTheLeastByActs() {
        KeptWell x = twoAtTheWell();
        dueLots("bad is best", x, 0, 1, 1);
        dueLots("bad is best", x, 1, 1, 1);
        dueLots("nothing brought", new KeptWell(), 0, 0, 1);
        dueLots("the least there is", game(-99, 99, -99, 99, -99, 99, -99, 99), 0, -99, 1);
        dueLots("the most there is", game(-99, 99, -99, 99, -99, 99, -99, 99), 1, 99, 1);
    }

    @Says("By LOTS: the other one draws its ACT by chances:")
    static void p16_byChancesOfThreeActs() {
        KeptWell x = three(1, 0, 0, 0, 0, 0, 0, 0, 2, 0, 0, 0, 0, 0, 0, 0, 3, 0);
        dueLots("1, 2 and 3", x, 0, 6, 11);
        x.acts(2);
        dueLots("1 and 2", x, 0, 2, 3);
        KeptWell y = three(0, 0, -1, 1, 1, -1, 1, -1, 0, 0, -1, 1, -1, 1, 1, -1, 0, 0);
        dueLots("each beats another", y, 0, 0, 1);
        dueLots("each beats another", y, 1, 0, 1);
        // two ACTS of three are drawn: the third of the other one brings person 0 more
        KeptWell z = three(1, 0, 0, 0, 9, 0, 0, 0, 2, 0, 9, 0, 0, 0, 0, 0, 9, 0);
        dueLots("two of three", z, 0, 2, 3);
    }

    /** Three ACTS each: of nine pairs in a row, by the one's own ACT first, what it gets; the other one gets 0. */
    private static KeptWell gameOf(int person, int... gets) {
        KeptWell x = three();
        for (int cell = 0; cell < 9; cell++) {
            if (person == 0) {
                x.bring(cell / 3, cell % 3, gets[cell], 0);
            } else {
                x.bring(cell % 3, cell / 3, 0, gets[cell]);
            }
        }
        return x;
    }

    @Says({"By LOTS: the other one draws its ACT by chances:", "the value of the game in which it wants least and the person most: a FRACTION."})
    static void p16_someOrAllOfThreeActs() {
        // by which ACTS of both: 0 0; 2 0; 0 2 against 1 2; 0 2 against 0 2; 1 0; 1 2 against 0 1; 0 1 against 1 2;
        // 0 1 against 0 2; 1 2 against 1 2; 0 2 against 0 1; 0 1 against 0 1; 1 2 against 0 2; all
        int[][] games = {{-1, 2, 7, -9, 5, -2, -8, -4, -6}, {-5, -5, -9, -9, -3, -3, -4, -4, 0},
            {1, -3, 8, -3, -4, -3, 3, 0, -9}, {2, 4, -4, -5, -1, -7, 1, 0, 9}, {-9, 1, -7, 0, 2, 0, 6, 1, -4},
            {-3, -6, -2, 5, 2, 7, 2, 7, -1}, {5, -6, 9, 2, 0, -8, 4, -7, -3}, {1, 0, -4, -7, -5, 0, 6, -4, -8},
            {-5, 5, -4, 7, 5, 6, 1, 6, -1}, {0, 6, 3, -5, -6, 3, 8, -4, 6}, {4, -2, 6, 0, 6, 3, 3, -4, -1},
            {-5, 6, -9, -6, 5, -2, 0, -8, -5}, {8, -2, -1, -7, 8, -2, -1, 0, 7}};
        int[][] due = {{-1, 1}, {-4, 1}, {-27, 20}, {11, 7}, {0, 1}, {31, 8}, {-48, 23}, {-7, 3}, {41, 8}, {8, 3}, {2, 1},
            {-10, 3}, {338, 271}};
        for (int i = 0; i < games.length; i++) {
            dueLots("game " + i, gameOf(0, games[i]), 0, due[i][0], due[i][1]);
            dueLots("game " + i + " of person 1", gameOf(1, games[i]), 1, due[i][0], due[i][1]);
        }
    }

    @Says("the value of the game in which it wants least and the person most: a FRACTION.")
    static void p16_noChanceIsBelowZero() {
        int[] worse = {-2, 0, 0};
        int[] better = {-1, 0, 0};
        for (int one = 0; one < 3; one++) {
            for (int other = 0; other < 3; other++) {
                if (one != other) {
                    int[] gets = {-9, -9, -9, -9, -9, -9, -9, -9, -9};
                    System.arraycopy(worse, 0, gets, 3 * one, 3);
                    System.arraycopy(better, 0, gets, 3 * other, 3);
                    dueLots("ACT " + other + " ahead of " + one, gameOf(0, gets), 0, -1, 1);
                    dueLots("ACT " + other + " ahead of " + one + " of person 1", gameOf(1, gets), 1, -1, 1);
                }
            }
        }
    }

    @Says("LEAST by LOTS, above or below.")
    static void p16_askedAgainAfterOtherNumbers() {
        KeptWell x = game(9, -7, 9, -7, 9, -8, 9, -8);
        dueLots("much", x, 0, 9, 1);
        dueLots("person 1: little", x, 1, -8, 1);
        dueLots("much again", x, 0, 9, 1);
        x.bring(0, 0, -9, 0);
        x.bring(1, 0, -9, 0);
        dueLots("less now", x, 0, -9, 1);
    }

    @Says("IndexOutOfBoundsException: there is no such person,")
    static void p16_noSuchPerson() {
        int[] none = {-1, 2, FAR[0], FAR[1]};
        for (int n : none) {
            refusedAndNothingChanges("above, person " + n, INDEX, Checks::full, x -> x.lots(n, false));
            refusedAndNothingChanges("below, person " + n, INDEX, Checks::full, x -> x.lots(n, true));
        }
    }

    // ---- promise 17: once ----

    @Says({"ONCE, as bits: 3 times the ACT of person 0 and that of person 1.",
        "ONCE: pairs of ACTS in which nobody gains by doing otherwise that day."})
    static void p17_theBitOfEachPair() {
        for (int cell = 0; cell < 9; cell++) {
            KeptWell x = three();
            for (int other = 0; other < 9; other++) {
                // whoever leaves the pair loses; from any other one somebody gains
                boolean sameB = other % 3 == cell % 3;
                boolean sameA = other / 3 == cell / 3;
                x.bring(other / 3, other % 3, sameA ? 5 : sameB ? 4 : other / 3 == other % 3 ? 1 : -1,
                        sameB ? 5 : sameA ? 4 : other / 3 == other % 3 ? -1 : 1);
            }
            due("bits of pair " + cell, x.once() & 1 << cell, 1 << cell);
            due("no other in its row or column", x.once() & (7 << cell / 3 * 3 | 73 << cell % 3) & ~(1 << cell), 0);
        }
    }

    @Says("in which nobody gains by doing otherwise that day.")
    static void p17_noneAllAndAsMuch() {
        due("coins: none", game(1, -1, -1, 1, -1, 1, 1, -1).once(), 0);
        due("all of two", new KeptWell().once(), 27);
        due("all of three", three().once(), 511);
        due("two bad ones", twoAtTheWell().once(), 16);
        due("as much is no gain", game(3, 3, 0, 3, 3, 0, 0, 0).once(), 1 | 2 | 8 | 16);
        due("one gains", game(3, 3, 0, 3, 4, 0, 1, 1).once(), 16);
    }

    @Says("ONCE: pairs of ACTS")
    static void p17_actTwoCountsAmongThreeAlone() {
        KeptWell x = three(1, 1, 0, 0, 0, 2, 0, 0, 0, 0, 0, 1, 2, 0, 0, 0, 3, 3);
        due("of three", x.once(), 256);
        x.acts(2);
        due("of two", x.once(), 1 | 16);
    }

    // ---- promises 18 and 19: the body ----

    private static void dueCorners(String what, KeptWell x, int[]... corners) {
        due(what + ": CORNERS", x.count(11), corners.length);
        for (int k = 0; k < corners.length; k++) {
            due(what + ": CORNER " + k + " across", x.corner(k, false), corners[k][0]);
            due(what + ": CORNER " + k + " up", x.corner(k, true), corners[k][1]);
        }
        int[] none = {-1, corners.length, 9, FAR[0], FAR[1]};
        for (int k : none) {
            due(what + ": no CORNER " + k + " across", x.corner(k, false), 1000);
            due(what + ": no CORNER " + k + " up", x.corner(k, true), 1000);
        }
    }

    private static int[] point(int across, int up) {
        return new int[] {across, up};
    }

    @Says({"CORNER k (from 0 on) across (up false) or up;", "1000 if there is none such."})
    static void p18_thousandIfThereIsNoneSuch() {
        dueCorners("four", twoAtTheWell(), point(0, 5), point(1, 1), point(5, 0), point(3, 3));
        dueCorners("the farthest", game(-99, -99, 99, -99, -99, 99, 99, 99),
                point(-99, -99), point(99, -99), point(99, 99), point(-99, 99));
    }

    @Says("one CORNER, or two, if it is no more than a point or a side.")
    static void p18_aPointOrASide() {
        dueCorners("a point", new KeptWell(), point(0, 0));
        dueCorners("another point", game(-7, 8, -7, 8, -7, 8, -7, 8), point(-7, 8));
        dueCorners("a side", game(2, 2, 4, 4, 0, 0, 1, 1), point(0, 0), point(4, 4));
        dueCorners("a side down", game(2, -2, 4, -4, 0, 0, 1, -1), point(0, 0), point(4, -4));
        dueCorners("a side across", game(2, 5, 4, 5, -3, 5, 1, 5), point(-3, 5), point(4, 5));
        dueCorners("a side up", game(2, 5, 2, 6, 2, -7, 2, 0), point(2, -7), point(2, 6));
        dueCorners("a side of three ACTS", three(9, 9, 0, 0, 1, 1, 2, 2, 3, 3, 4, 4, 5, 5, 6, 6, 7, 7), point(0, 0), point(9, 9));
    }

    @Says({"CORNERS: from that of the least across (of several the least up) on,", "left turns (against the clock);"})
    static void p18_fromTheLeastAcrossOfSeveralTheLeastUpAgainstTheClock() {
        dueCorners("a square", game(4, 4, 0, 4, 4, 0, 0, 0), point(0, 0), point(4, 0), point(4, 4), point(0, 4));
        dueCorners("the same, told otherwise", game(0, 4, 0, 0, 4, 0, 4, 4), point(0, 0), point(4, 0), point(4, 4), point(0, 4));
        dueCorners("three", game(0, 0, 3, -9, 0, 0, 3, 9), point(0, 0), point(3, -9), point(3, 9));
    }

    @Says("CORNERS: from that of the least across (of several the least up) on,")
    static void p18_theFirstCornerMayBeOfAnyPair() {
        for (int cell = 0; cell < 9; cell++) {
            KeptWell x = three();
            x.bring(cell / 3, cell % 3, -1, 5);
            dueCorners("pair " + cell, x, point(-1, 5), point(0, 0));
            x.bring((cell + 4) % 9 / 3, (cell + 4) % 3, -1, 4);
            dueCorners("pair " + cell + " above another", x, point(-1, 4), point(0, 0), point(-1, 5));
        }
    }

    @Says("points within a side are none;")
    static void p18_pointsWithinASideAreNone() {
        dueCorners("eight round and one within",
                three(0, 0, 2, 0, 4, 0, 0, 2, 2, 2, 4, 2, 0, 4, 2, 4, 4, 4),
                point(0, 0), point(4, 0), point(4, 4), point(0, 4));
        dueCorners("the far one first, then those within", game(0, 0, 6, 0, 2, 0, 0, 3), point(0, 0), point(6, 0), point(0, 3));
        dueCorners("a point within", game(0, 0, 9, 0, 0, 9, 2, 2), point(0, 0), point(9, 0), point(0, 9));
        // a hair off the side is a corner
        dueCorners("next to a side", game(0, 0, 98, 97, 49, 48, 0, 99), point(0, 0), point(49, 48), point(98, 97), point(0, 99));
        dueCorners("nearer there is none", game(0, 0, 98, 97, 97, 96, 0, 99), point(0, 0), point(97, 96), point(98, 97), point(0, 99));
        dueCorners("as near within", game(0, 0, 98, 97, 1, 1, 0, 99), point(0, 0), point(98, 97), point(0, 99));
    }

    @Says({"THE BODY: the least convex body that has what all pairs of ACTS bring (person 0 across, 1 up):"})
    static void p18_nineCornersAtMost() {
        KeptWell x = three(4, 16, -4, 16, 3, 9, -3, 9, 2, 4, -2, 4, 1, 1, -1, 1, 0, 0);
        dueCorners("nine", x, point(-4, 16), point(-3, 9), point(-2, 4), point(-1, 1), point(0, 0), point(1, 1), point(2, 4),
                point(3, 9), point(4, 16));
        due("on the side from the last to the first", x.in(0, 16, 1, false), true);
        due("above it", x.in(0, 16001, 1000, false), false);
        x.acts(2);
        // 4 16, -4 16, -3 9 and 2 4 alone
        dueCorners("of two ACTS", x, point(-4, 16), point(-3, 9), point(2, 4), point(4, 16));
    }

    @Says({"Whether a point is IN (kept false), or KEPT.", "IN: a point (X / D, Y / D) is in it, on its border too."})
    static void p19_onTheBorderIsIn() {
        KeptWell x = twoAtTheWell();
        int[][] corners = {{0, 5}, {1, 1}, {5, 0}, {3, 3}};
        for (int[] at : corners) {
            due("CORNER " + at[0] + " " + at[1], x.in(at[0], at[1], 1, false), true);
        }
        int[][] in = {{1, 6, 2}, {6, 1, 2}, {8, 3, 2}, {3, 8, 2}, {2, 2, 1}, {1200, 950, 1000}};
        for (int[] at : in) {
            due(at[0] + " " + at[1] + " / " + at[2] + " on a side or within", x.in(at[0], at[1], at[2], false), true);
        }
        int[][] out = {{499, 3000, 1000}, {1200, 949, 1000}, {999, 1001, 1000}, {3000, 499, 1000}, {4001, 1500, 1000}, {1501, 4000, 1000},
            {3001, 3001, 1000}, {-1, 5000, 1000}, {0, 5001, 1000}, {5001, 0, 1000}, {5000, -1, 1000}, {0, 0, 1}};
        for (int[] at : out) {
            due(at[0] + " " + at[1] + " / " + at[2] + " just outside", x.in(at[0], at[1], at[2], false), false);
        }
    }

    @Says("is in it, on its border too.")
    static void p19_inABodyThatIsAPoint() {
        KeptWell x = new KeptWell();
        due("it", x.in(0, 0, 1000, false), true);
        int[][] out = {{1, 0}, {-1, 0}, {0, 1}, {0, -1}};
        for (int[] at : out) {
            due(at[0] + " " + at[1] + " / 1000", x.in(at[0], at[1], 1000, false), false);
        }
        KeptWell y = game(-7, 8, -7, 8, -7, 8, -7, 8);
        due("-7 8", y.in(-21, 24, 3, false), true);
        due("7 8", y.in(21, 24, 3, false), false);
    }

    @Says("is in it, on its border too.")
    static void p19_inABodyThatIsASide() {
        KeptWell[] sides = {game(2, 2, 4, 4, 0, 0, 1, 1), game(2, -2, 4, -4, 0, 0, 1, -1), game(4, 0, 0, 0, 1, 0, 2, 0),
            game(0, 4, 0, 0, 0, 1, 0, 2)};
        int[][] ends = {{4, 4}, {4, -4}, {4, 0}, {0, 4}};
        for (int i = 0; i < 4; i++) {
            int x = ends[i][0];
            int y = ends[i][1];
            due("its end", sides[i].in(x, y, 1, false), true);
            due("its other end", sides[i].in(0, 0, 1, false), true);
            due("within", sides[i].in(x * 333, y * 333, 1000, false), true);
            due("beyond its end", sides[i].in(x * 1001, y * 1001, 1000, false), false);
            due("beyond its other end", sides[i].in(-x, -y, 1000, false), false);
            due("left of it", sides[i].in(2 * x - y, 2 * y + x, 4, false), false);
            due("right of it", sides[i].in(2 * x + y, 2 * y - x, 4, false), false);
        }
    }

    @Says("is in it, on its border too.")
    static void p19_inATriangleAndInSidesFarFromZero() {
        KeptWell x = game(0, 0, 98, 97, 0, 99, 0, 0);
        due("within", x.in(49, 60, 1, false), true);
        due("on the side", x.in(49, 97, 2, false) && x.in(98, 97, 1, false), true);
        due("a hair above the lower side", x.in(1, 1, 1, false), true);
        due("a hair below it", x.in(97, 96, 1, false), false);
        KeptWell falling = game(-7, 9, -3, 5, -7, 9, -3, 5);
        due("its first end", falling.in(-7, 9, 1, false), true);
        due("its last end", falling.in(-3, 5, 1, false), true);
        due("within", falling.in(-5, 7, 1, false), true);
        due("beyond the first", falling.in(-7001, 9001, 1000, false), false);
        due("beyond the last", falling.in(-2999, 4999, 1000, false), false);
        KeptWell rising = game(3, -9, 7, -5, 3, -9, 7, -5);
        due("its first end", rising.in(3, -9, 1, false), true);
        due("its last end", rising.in(7, -5, 1, false), true);
        due("beyond the first", rising.in(2999, -9001, 1000, false), false);
        due("beyond the last", rising.in(7001, -4999, 1000, false), false);
        KeptWell upright = game(4, -9, 4, -5, 4, -9, 4, -5);
        due("its upper end", upright.in(4, -5, 1, false), true);
        due("above it", upright.in(4000, -4999, 1000, false), false);
        KeptWell high = game(4, 9, 4, 5, 4, 9, 4, 5);
        due("its lower end", high.in(4, 5, 1, false), true);
        due("below it", high.in(4000, 4999, 1000, false), false);
    }

    @Says("KEPT: it is in it, and each coordinate is above the LEAST by ACTS.")
    static void p19_keptIsAboveTheLeastInEach() {
        KeptWell x = twoAtTheWell();
        due("2 2", x.in(2, 2, 1, true), true);
        due("both a little above", x.in(1001, 1001, 1000, true), true);
        due("as much as the LEAST across", x.in(1000, 1001, 1000, true), false);
        due("as much as the LEAST up", x.in(1001, 1000, 1000, true), false);
        due("IN all the same", x.in(1000, 1001, 1000, false) && x.in(1001, 1000, 1000, false), true);
        due("both as much", x.in(1, 1, 1, true), false);
        due("below in one", x.in(0, 5, 1, true), false);
        due("above in both, but not in it", x.in(4, 4, 1, true), false);
    }

    @Says("each coordinate is above the LEAST by ACTS.")
    static void p19_keptGoesByActsNotByLots() {
        // LEAST by ACTS 1, by LOTS 2 / 3; person 1's is -5
        KeptWell x = game(1, -5, 0, -5, 0, -5, 2, 0);
        due("LEAST", x.least(0, false), 1);
        due("above LOTS, not above ACTS", x.in(5, -20, 6, true), false);
        due("IN", x.in(5, -20, 6, false), true);
        due("LEAST of person 1", x.least(1, false), -5);
        due("above both, on a side", x.in(3, -5, 2, true), true);
        due("above both, just outside", x.in(1501, -2500, 1000, true), false);
    }

    @Says({"IllegalArgumentException: D is not 1 to 1000,", "or X, Y are not - 100000 to 100000."})
    static void p19_numbersThatAreNone() {
        int[] noD = {0, -1, 1001, FAR[0], FAR[1]};
        for (int d : noD) {
            refusedAndNothingChanges("D " + d, ARGUMENT, Checks::full, x -> x.in(0, 0, d, false));
        }
        int[] none = {100001, -100001, FAR[0], FAR[1]};
        for (int n : none) {
            refusedAndNothingChanges("X " + n, ARGUMENT, Checks::full, x -> x.in(n, 0, 1000, true));
            refusedAndNothingChanges("Y " + n, ARGUMENT, Checks::full, x -> x.in(0, n, 1000, false));
        }
    }

    @Says({"IllegalArgumentException: D is not 1 to 1000,", "or X, Y are not - 100000 to 100000."})
    static void p19_theFarthestNumbers() {
        KeptWell x = game(-99, -99, 99, -99, -99, 99, 99, 99);
        int[] signs = {1, -1};
        for (int sign : signs) {
            due("100 is out", x.in(sign * 100000, 0, 1000, false), false);
            due("100 up is out", x.in(0, sign * 100000, 1000, false), false);
            due("far out", x.in(sign * 100000, -sign * 100000, 1, false), false);
            due("99 is in", x.in(sign * 99000, -sign * 99000, 1000, false), true);
            due("99 and a little is out", x.in(sign * 99001, 0, 1000, false), false);
            due("99 and a little up is out", x.in(0, sign * 99001, 1000, false), false);
            due("D 1", x.in(sign * 99, 99, 1, false), true);
        }
        due("above the LEAST", x.in(-98999, -98999, 1000, true), true);
        due("not above the LEAST", x.in(-99000, -98999, 1000, true), false);
    }

    // ---- promise 20: mild ----

    @Says({"MILD; NONE.", "as long as all did as told: KEEP;", "The fewest days by which nobody gains by doing once otherwise, on any day; none."})
    static void p20_noDaysIfNobodyGains() {
        due("a pair of ONCE", twoAtTheWell().mild(1, 1, 0, 0), 0);
        due("as much is no gain", game(3, 3, 0, 3, 3, 0, 0, 0).mild(0, 0, 1, 1), 0);
        due("the threat is what is kept", twoAtTheWell().mild(1, 1, 1, 1), 0);
        due("with none to be kept", twoAtTheWell().mild(0, 0, 0, 0), -1);
    }

    @Says({"when just one did otherwise: so many days (0 to 9) of the threat, then KEEP again;",
        "The fewest days by which nobody gains by doing once otherwise,"})
    static void p20_asMuchIsNoGain() {
        // a gain of 1, and 2 less on each day of threat, which tomorrow is 1
        KeptWell x = game(3, 3, 0, 4, 4, 0, 1, 1);
        due("one day", x.mild(0, 0, 1, 1), 1);
        x.tomorrow(4, 9);
        due("2 days, tomorrow counts less", x.mild(0, 0, 1, 1), 2);
        x.tomorrow(1, 3);
        // 2 thirds, 2 ninths and so on never come to 1, but as near as one likes
        due("never", x.mild(0, 0, 1, 1), -1);
    }

    @Says("so many days (0 to 9) of the threat,")
    static void p20_nineDaysAtMost() {
        // 10 less on each day of threat: by 8 / 9 in nine days 52 and some, in eight 48 and some
        int[] gains = {8, 9, 48, 49, 52, 53, 99};
        int[] days = {1, 2, 8, 9, 9, -1, -1};
        for (int i = 0; i < gains.length; i++) {
            KeptWell x = game(0, 0, -99, 0, gains[i], 0, -10, 0);
            x.tomorrow(8, 9);
            due("person 0 gains " + gains[i], x.mild(0, 0, 1, 1), days[i]);
            KeptWell y = game(0, 0, 0, gains[i], 0, -99, 0, -10);
            y.tomorrow(8, 9);
            due("person 1 gains " + gains[i], y.mild(0, 0, 1, 1), days[i]);
        }
    }

    @Says({"doing otherwise in such a day begins all of these days anew", "(if both did otherwise at once, it goes on as if nobody had).",
        "on any day; none."})
    static void p20_alsoOnADayOfThreatNobodyGains() {
        // a gain of 2 by not threatening, and KEEP, 4 more, comes a day later: by 1 / 2 as much
        KeptWell x = game(4, 0, 2, 0, 6, 0, 0, 0);
        due("as much", x.mild(0, 0, 1, 1), 1);
        x.bring(0, 1, 3, 0);
        due("one more", x.mild(0, 0, 1, 1), -1);
        KeptWell y = game(0, 4, 0, 6, 0, 2, 0, 0);
        due("person 1: as much", y.mild(0, 0, 1, 1), 1);
        y.bring(1, 0, 0, 3);
        due("person 1: one more", y.mild(0, 0, 1, 1), -1);
        due("who threatens does what it would not", twoAtTheWell().mild(0, 0, 1, 0), -1);
    }

    @Says({"MILD: a pair of ACTS to be kept (KEEP), and one for threat:", "nobody gains"})
    static void p20_theOneWhoNeedsMoreDaysCounts() {
        KeptWell x = game(3, 3, 0, 5, 4, 0, 1, 1);
        x.tomorrow(8, 9);
        due("person 1 needs two", x.mild(0, 0, 1, 1), 2);
        x.bring(0, 1, 0, 4);
        due("both need one", x.mild(0, 0, 1, 1), 1);
        x.bring(1, 0, 5, 0);
        due("person 0 needs two", x.mild(0, 0, 1, 1), 2);
    }

    @Says("when just one did otherwise:")
    static void p20_whoDoesTheSameDoesNotOtherwise() {
        // the threat brings person 0 more than KEEP, and each other ACT next to nothing; person 1 gains 1 at once
        KeptWell x = game(0, 3, -50, 4, -50, 0, 5, 1);
        due("ACT 0 is kept", x.mild(0, 0, 1, 1), 1);
        KeptWell y = game(5, 1, -50, 0, -50, 4, 0, 3);
        due("ACT 1 is kept", y.mild(1, 1, 0, 0), 1);
        KeptWell z = game(3, 0, 0, -50, 4, -50, 1, 5);
        due("the same with persons changed", z.mild(0, 0, 1, 1), 1);
    }

    @Says("(KEEP), and one for threat:")
    static void p20_theThirdActToo() {
        KeptWell x = three(3, 3, 0, 4, 0, 0, 4, 0, 1, 1, 0, 0, 0, 0, 0, 0, 0, 0);
        due("a threat by ACT 1", x.mild(0, 0, 1, 1), 1);
        due("a threat by ACT 2", x.mild(0, 0, 2, 2), 1);
        x.bring(2, 0, 5, 0);
        // 3 a day less by ACT 2: by halves a gain of 2 is too much for one day, not for two
        due("a gain by ACT 2", x.mild(0, 0, 2, 2), 2);
        x.acts(2);
        due("with two ACTS there is none", x.mild(0, 0, 1, 1), 1);
    }

    @Says("IndexOutOfBoundsException: there is no such person, ACT,")
    static void p20_noSuchAct() {
        int[] none = {-1, 2, FAR[0], FAR[1]};
        for (int n : none) {
            refusedAndNothingChanges("KEEP of person 0 " + n, INDEX, Checks::full, x -> x.mild(n, 0, 0, 0));
            refusedAndNothingChanges("KEEP of person 1 " + n, INDEX, Checks::full, x -> x.mild(0, n, 0, 0));
            refusedAndNothingChanges("threat of person 0 " + n, INDEX, Checks::full, x -> x.mild(0, 0, n, 0));
            refusedAndNothingChanges("threat of person 1 " + n, INDEX, Checks::full, x -> x.mild(0, 0, 0, n));
        }
        KeptWell x = fullWithThreeActs();
        x.mild(2, 2, 2, 2);
        refused("ACT 3 of three", INDEX, () -> x.mild(3, 0, 0, 0));
        refused("threat 3 of three", INDEX, () -> x.mild(0, 0, 0, 3));
    }

    // ---- promise 21: edge ----

    /** A grim one and a good one that hold as soon as P / Q is (bad once less good) / (bad once less bad for ever). */
    private static KeptWell heldBy(int good, int once, int after) {
        KeptWell x = game(good, good, 0, once, good, after, 0, after - 1);
        ways(x, GRIM, GOOD);
        return x;
    }

    @Says({"EDGE: 100 times P and Q; NONE.", "EDGE: of all FRACTIONS P / Q with Q at most a told number (2 to 12) the least by which a PAIR HOLDS; none."})
    static void p21_theLeastThatHolds() {
        // 5 / 8: the least that is not below it with Q up to 2, 3, .. 12
        KeptWell x = heldBy(5, 10, 2);
        int[] due = {-1, 203, 203, 203, 203, 203, 508, 508, 508, 508, 508};
        for (int q = 2; q <= 12; q++) {
            due("Q up to " + q, x.edge(0, 1, q), due[q - 2]);
        }
    }

    @Says("with Q at most a told number (2 to 12)")
    static void p21_theLeastAndTheGreatestFraction() {
        KeptWell all = new KeptWell();
        way(all, GOOD);
        for (int q = 2; q <= 12; q++) {
            due("whatever tomorrow counts, Q up to " + q, all.edge(0, 0, q), 100 + q);
        }
        KeptWell last = heldBy(1, 12, 0);
        due("11 / 12", last.edge(0, 1, 12), 1112);
        due("not by 10 / 11", last.edge(0, 1, 11), -1);
        due("never", twoAtTheWell().edge(0, 0, 12), -1);
    }

    @Says("EDGE: 100 times P and Q; NONE.")
    static void p21_withoutACommonPartAndWhateverTomorrowCounts() {
        KeptWell x = heldBy(3, 4, 2);
        x.tomorrow(8, 9);
        due("1 / 2", x.edge(0, 1, 12), 102);
        due("P stays", x.count(3), 8);
        due("Q stays", x.count(4), 9);
        due("HOLD by 8 / 9", x.hold(0, 1), true);
    }

    @Says("IllegalArgumentException: the greatest Q is none;")
    static void p21_noGreatestQ() {
        int[] none = {1, 13, 0, -1, FAR[0], FAR[1]};
        for (int q : none) {
            refusedAndNothingChanges("Q up to " + q, ARGUMENT, Checks::full, x -> x.edge(0, 0, q));
        }
    }

    @Says({"(By each of these is asked.)", "IndexOutOfBoundsException: there is no such person, ACT, WAY,", "IllegalStateException: a WAY is BARRED,"})
    static void p21_noSuchWayOrABarredOne() {
        int[] none = {-1, 4, 8, FAR[0], FAR[1]};
        for (int n : none) {
            refusedAndNothingChanges("WAY " + n, INDEX, Checks::full, x -> x.edge(n, 0, 12));
            refusedAndNothingChanges("the other WAY " + n, INDEX, Checks::full, x -> x.edge(0, n, 12));
        }
        refusedAndNothingChanges("BARRED", STATE, Checks::full, x -> x.edge(2, 0, 12));
        refusedAndNothingChanges("the other one BARRED", STATE, Checks::full, x -> x.edge(0, 2, 12));
        fullWithThreeActs().edge(2, 2, 12);
    }

    @Says({"Of several exceptions the one told first is thrown;", "IllegalArgumentException: the greatest Q is none; IllegalStateException."})
    static void p21_wayAheadOfQAheadOfBarred() {
        KeptWell x = full();
        refused("no WAY, no Q, BARRED", INDEX, () -> x.edge(2, 4, 13));
        refused("no WAY, no Q", INDEX, () -> x.edge(-1, 0, 1));
        refused("no Q, BARRED", ARGUMENT, () -> x.edge(2, 0, 13));
        refused("no Q, the other one BARRED", ARGUMENT, () -> x.edge(0, 2, 1));
    }

    // ---- promise 22: together ----

    @Says({"TOGETHER: of all PAIRS of WAYS that are not BARRED and HOLD", "NONE."})
    static void p22_noneWithoutWaysOrIfNoneHold() {
        KeptWell x = game(3, 3, 0, 5, 5, 0, 1, 1);
        due("without WAYS", x.together(), -1);
        way(x, GOOD);
        due("none HOLD", x.together(), -1);
        way(x, BAD);
        due("two bad ones", x.together(), 9);
    }

    @Says({"that whose WORTHS to both from MOODS 0 are the most together:", "8 times the first and the second;"})
    static void p22_theMostTogether() {
        KeptWell x = game(5, 0, 0, 0, 0, 0, 2, 2);
        ways(x, GOOD, BAD);
        due("5 and 0", x.together(), 0);
        x.bring(1, 1, 3, 3);
        due("3 and 3", x.together(), 9);
        KeptWell y = game(0, 0, 4, 1, 1, 1, 0, 0);
        ways(y, GOOD, BAD);
        due("4 and 1", y.together(), 1);
        y.bring(1, 0, 3, 3);
        due("3 and 3", y.together(), 8);
        // by thirds each WORTH is three halves of a day's
        y.tomorrow(1, 3);
        due("3 and 3 by thirds", y.together(), 8);
        y.bring(1, 0, 2, 2);
        due("4 and 1 by thirds", y.together(), 1);
        // from MOODS 0: what a later MOOD brings counts less
        KeptWell z = game(1, 1, 0, 0, 0, 0, 3, 3);
        ways(z, "does 0, any to 1; does 1", BAD, "does 1, any to 1; does 0");
        due("bad at once", z.together(), 9);
    }

    @Says("of several the least such number; NONE.")
    static void p22_ofSeveralTheLeastNumber() {
        KeptWell x = new KeptWell();
        ways(x, GOOD, BAD, MIRROR);
        due("all the same", x.together(), 0);
        KeptWell y = game(2, 1, 0, 0, 0, 0, 1, 2);
        ways(y, GOOD, BAD);
        due("3 and 3", y.together(), 0);
        y.bring(0, 0, 1, 1);
        due("2 and 3", y.together(), 9);
    }

    @Says("8 times the first and the second;")
    static void p22_theLastOfEightWays() {
        KeptWell x = game(3, 3, 0, 5, 5, 0, 1, 1);
        ways(x, GOOD, GOOD, GOOD, GOOD, GOOD, GOOD, GOOD, BAD);
        due("the last with itself", x.together(), 63);
    }

    @Says("of all PAIRS of WAYS that are not BARRED")
    static void p22_barredOnesDoNotCount() {
        KeptWell x = three(1, 1, 0, 0, 0, 0, 0, 0, 2, 2, 0, 0, 0, 0, 0, 0, 9, 9);
        ways(x, "does 2", GOOD, BAD, "does 0; does 2");
        due("with three ACTS", x.together(), 0);
        x.acts(2);
        due("with two ACTS", x.together(), 18);
        x.acts(3);
        x.bring(2, 2, 0, 0);
        x.bring(2, 0, 9, 9);
        x.bring(0, 2, 8, 9);
        due("one that is BARRED with two", x.together(), 1);
        x.acts(2);
        due("one of two BARRED", x.together(), 18);
        KeptWell y = new KeptWell();
        way(y, "does 2");
        due("BARRED ones alone", y.together(), -1);
    }
}
