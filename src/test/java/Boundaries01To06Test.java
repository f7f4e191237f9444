/** Promises 1 to 6, a new object, the tape, the meeting: each sentence of the document that names a boundary. */
public final class Boundaries01To06Test extends Checks {
    public static void main(String[] args) {
        run(Boundaries01To06Test.class);
    }

    // ---- promise 1: a new object ----

    @Says({"Two ACTS,", "(2 or 3 of them, the same number for both: 2 at first)"})
    static void p01_aNewObjectHasTwoActs() {
        KeptWell x = new KeptWell();
        due("ACTS", x.count(0), 2);
        x.bring(1, 1, 0, 0);
        refused("ACT 2 of person 0", INDEX, () -> x.bring(2, 0, 0, 0));
        refused("ACT 2 of person 1", INDEX, () -> x.bring(0, 2, 0, 0));
    }

    @Says({"nothing brought,", "0 at first)."})
    static void p01_inANewObjectNothingIsBrought() {
        KeptWell x = new KeptWell();
        due("ONCE of two ACTS", x.once(), 27);
        x.acts(3);
        due("ONCE of three ACTS", x.once(), 511);
        due("CORNERS", x.count(11), 1);
        due("across", x.corner(0, false), 0);
        due("up", x.corner(0, true), 0);
        due("LEAST", x.least(0, false), 0);
        due("LEAST of person 1", x.least(1, false), 0);
    }

    @Says("no WAYS,")
    static void p01_aNewObjectHasNoWays() {
        KeptWell x = new KeptWell();
        due("WAYS", x.count(1), 0);
        due("BARRED ones", x.count(2), 0);
        due("TOGETHER", x.together(), -1);
        due("GROW", x.grow(50), 0);
        due("beings in all", x.count(8), 0);
        Call[] calls = {() -> x.mood(0, 0, 0), () -> x.worth(0, 0, 0, 0, 0, false), () -> x.hold(0, 0),
            () -> x.first(0, 0), () -> x.best(0, 0, 0), () -> x.answer(0, 0, 0, false), () -> x.edge(0, 0, 2),
            () -> x.doubt(0, 0, 0, false, false), () -> x.judge(0, 0), () -> x.drawn(0, 0, 0, 0, 0),
            () -> x.field(0, 0), () -> x.meet(0, 0), () -> x.beings(0), () -> x.stays(0), () -> x.all(0, 0),
            () -> x.begin(0, 0)};
        for (int i = 0; i < calls.length; i++) {
            refused("call " + i + " of WAY 0", INDEX, calls[i]);
        }
    }

    @Says("nobody in the VILLAGE.")
    static void p01_inANewObjectNobodyIsInTheVillage() {
        KeptWell x = new KeptWell();
        due("in the VILLAGE", x.count(10), 0);
        due("WEAK", x.village(0), -1);
        due("HELD", x.village(1), 1);
        due("FEW", x.village(2), 0);
        refused("EDGE of one", INDEX, () -> x.villageEdge(0, false));
    }

    @Says("1 / 2 at first).")
    static void p01_tomorrowCountsAHalfAtFirst() {
        KeptWell x = new KeptWell();
        due("P", x.count(3), 1);
        due("Q", x.count(4), 2);
        x.bring(0, 0, 3, 0);
        way(x, GOOD);
        due("WORTH", x.worth(0, 0, 0, 0, 0, false), 6);
    }

    @Says("E 0 at first)")
    static void p01_thereAreNoMistakesAtFirst() {
        KeptWell x = twoAtTheWell();
        due("E", x.count(5), 0);
        due("DOUBTED WORTH", x.doubt(2, 2, 0, false, false), 6);
        due("MOOD after a day without a mistake", x.drawn(2, 2, 100, 1, 2), 0);
    }

    @Says({"(0 to 1000; 0 at first)", "(1 to 30; 10 at first)"})
    static void p01_theFieldIsEmptyAndHasTenRoundsAtFirst() {
        KeptWell x = twoAtTheWell();
        due("beings", x.beings(0), 0);
        due("beings in all", x.count(8), 0);
        due("ROUNDS", x.count(9), 10);
        due("MEET", x.meet(0, 0), 1020);
    }

    @Says("Two ACTS, nothing brought, no WAYS, nobody in the VILLAGE.")
    static void p01_aNewObjectHasNoRowNoFaultNoTapeAndNoImage() {
        KeptWell x = new KeptWell();
        due("fault", x.fault(), -1);
        due("days", x.count(7), 0);
        due("BROUGHT", x.brought(0), 0);
        due("back", x.back(), false);
        due("end of one byte", x.end(1), false);
        due("end of none", x.end(0), true);
        due("ROW", x.row(), 0);
        due("feed", x.feed(0, 0, 0, 0, 0), 20);
    }

    @Says("An object is used for at most 512 calls after it has been made;")
    static void p01_anObjectAnswersFor512Calls() {
        KeptWell x = game(0, 0, 5, -99, 99, 7, 3, 4);
        for (int call = 4; call < 510; call += 2) {
            due("feed", x.feed(0, 0, 0, 0, 0), 20);
            due("ROW", x.row(), 10);
        }
        x.bring(0, 0, 9, -9);
        due("BROUGHT at call 512", x.brought(1), -90);
        KeptWell y = twoAtTheWell();
        for (int call = 18; call < 510; call += 2) {
            y.image();
            due("back", y.back(), true);
        }
        due("TOGETHER", y.together(), 9);
        due("ALL WAYS at call 512", y.all(1, 0), 16);
    }

    @Says("A MEETING: persons 0 and 1,")
    static void p01_whatIsToldOfOneMeetingIsNotToldOfAnother() {
        KeptWell x = full();
        KeptWell y = new KeptWell();
        dueText("a new object beside one of which all was told", Looks.all(y), Looks.all(new KeptWell()));
        dueText("one of which all was told beside a new one", Looks.all(x), Looks.all(full()));
    }

    // ---- promise 2: feed ----

    @Says("Twenty bytes come behind the TAPE,")
    static void p02_theBytesComeBehindTheTape() {
        KeptWell x = twoAtTheWell();
        x.feed(0, 0, 0, 0, 0);
        x.end(3);
        due("feed", x.feed(0x01010101, 0, 0, 0, 0), 23);
        x.end(6);
        due("ROW of 0 0, 0 1, 1 1", x.row(), 3);
        due("JUDGED: person 1 on day 1", x.judge(0, 0), 3);
        due("BROUGHT", x.brought(0), 3 + 0 + 1);
        due("BROUGHT", x.brought(1), 3 + 5 + 1);
    }

    @Says("of each number the highest first:")
    static void p02_ofEachNumberTheHighestByteComesFirst() {
        KeptWell x = new KeptWell();
        // does 2,1 to 1;does 0
        x.feed(0x646f6573, 0x20322c31, 0x20746f20, 0x313b646f, 0x65732030);
        due("way", x.way(), 0);
        due("ACT of MOOD 0", x.mood(0, 0, 2), 2);
        due("as 1 was seen", x.mood(0, 0, 4), 1);
        due("ACT of MOOD 1", x.mood(0, 1, 2), 0);
    }

    @Says("of each number the highest first:")
    static void p02_bytesAbove127AreBytesToo() {
        KeptWell x = new KeptWell();
        x.feed(0x20202020, 0x20202020, 0x20202020, 0x20202020, 0xff202020);
        refused("the highest byte 255", ARGUMENT, () -> x.way());
        due("fault", x.fault(), 16);
        x.feed(0x20202020, 0x202020ff, 0x20202020, 0x20202020, 0x20202020);
        refused("the lowest byte 255", ARGUMENT, () -> x.way());
        due("fault", x.fault(), 7);
        x.feed(Integer.MIN_VALUE, 0, 0, 0, 0);
        x.end(2);
        refused("a ROW with the byte 128", ARGUMENT, () -> x.row());
    }

    @Says("how many it has;")
    static void p02_itAnswersHowManyBytesTheTapeHas() {
        KeptWell x = new KeptWell();
        due("feed", x.feed(0, 0, 0, 0, 0), 20);
        due("feed", x.feed(0, 0, 0, 0, 0), 40);
        x.end(7);
        due("feed behind 7", x.feed(0, 0, 0, 0, 0), 27);
        x.end(0);
        due("feed behind none", x.feed(0, 0, 0, 0, 0), 20);
    }

    private static KeptWell withTapeOf(int bytes) {
        KeptWell x = new KeptWell();
        for (int i = 0; i < bytes; i += 20) {
            x.feed(0, 0, 0, 0, 0);
        }
        x.end(bytes);
        return x;
    }

    @Says("NONE, and none come, if it would have more than 400.")
    static void p02_theTapeTakesFourHundredBytes() {
        due("feed behind 380", withTapeOf(380).feed(0, 0, 0, 0, 0), 400);
        KeptWell x = withTapeOf(400);
        due("all 400 stay", x.end(400), true);
        due("ROW of all", x.row(), 200);
    }

    @Says("NONE, and none come, if it would have more than 400.")
    static void p02_noneComeIfTheTapeWouldHaveMoreThanFourHundred() {
        int[] lengths = {381, 399, 400};
        for (int length : lengths) {
            KeptWell x = withTapeOf(length);
            due("feed behind " + length, x.feed(-1, -1, -1, -1, -1), -1);
            due("the tape still has " + length, tapeHas(x, length), true);
            x.end(length / 2 * 2);
            due("and what it had", x.row(), length / 2);
        }
    }

    @Says("NONE, and none come, if it would have more than 400.")
    static void p02_afterARefusedFeedTheTapeTakesBytesAsBefore() {
        KeptWell x = withTapeOf(400);
        x.feed(1, 1, 1, 1, 1);
        x.end(380);
        due("feed", x.feed(0, 0, 0, 0, 1), 400);
        due("ROW", x.row(), 200);
        way(x, GOOD);
        due("JUDGED: the last byte of all", x.judge(0, 0), 399);
    }

    // ---- promise 3: end ----

    @Says("The TAPE has its first n bytes alone: true;")
    static void p03_theFirstBytesStayAndTheOthersAreGone() {
        KeptWell x = new KeptWell();
        x.feed(0x646f6573, 0x20312121, 0, 0, 0);
        due("end", x.end(6), true);
        due("6 bytes", tapeHas(x, 6), true);
        due("feed", x.feed(0x20202020, 0x20202020, 0x20202020, 0x20202020, 0x20202020), 26);
        due("does 1, and blanks", x.way(), 0);
        due("ACT", x.mood(0, 0, 2), 1);
    }

    @Says("The TAPE has its first n bytes alone: true;")
    static void p03_asManyAsItHasAllStay() {
        KeptWell x = new KeptWell();
        due("none of none", x.end(0), true);
        x.feed(0, 0, 0, 0, 1);
        due("20 of 20", x.end(20), true);
        due("ROW", x.row(), 10);
        way(x, GOOD);
        due("the last byte is there", x.judge(0, 0), 19);
    }

    @Says("The TAPE has its first n bytes alone: true;")
    static void p03_noneStay() {
        KeptWell x = new KeptWell();
        x.feed(-1, -1, -1, -1, -1);
        due("end of none", x.end(0), true);
        due("no bytes", tapeHas(x, 0), true);
        due("ROW", x.row(), 0);
    }

    @Says("false, and nothing happens, if it has fewer,")
    static void p03_nothingHappensIfItHasFewer() {
        KeptWell x = new KeptWell();
        due("one of none", x.end(1), false);
        x.feed(0, 0, 0, 0, 0);
        due("21 of 20", x.end(21), false);
        due("very many", x.end(Integer.MAX_VALUE), false);
        due("the tape has 20", x.feed(0, 0, 0, 0, 0), 40);
        x.end(30);
        due("what was cut off does not come back", x.end(31), false);
        due("ROW", x.row(), 15);
    }

    @Says("or n is below 0.")
    static void p03_nothingHappensIfNIsBelowZero() {
        KeptWell x = new KeptWell();
        due("-1 of none", x.end(-1), false);
        x.feed(0, 0, 0, 0, 0);
        due("-1", x.end(-1), false);
        due("far below", x.end(Integer.MIN_VALUE), false);
        due("the tape has 20", x.feed(0, 0, 0, 0, 0), 40);
    }

    // ---- promise 4: acts ----

    @Says({"A MEETING: persons 0 and 1, each with ACTS 0 to 1, or 0 to 2",
        "(2 or 3 of them, the same number for both: 2 at first).", "How many ACTS there are."})
    static void p04_twoOrThreeTheSameNumberForBoth() {
        KeptWell x = new KeptWell();
        x.acts(3);
        due("three", x.count(0), 3);
        x.bring(2, 0, 1, 1);
        x.bring(0, 2, 1, 1);
        x.bring(2, 2, 1, 1);
        x.acts(3);
        due("three again", x.count(0), 3);
        x.acts(2);
        due("two", x.count(0), 2);
        refused("ACT 2 of person 0", INDEX, () -> x.bring(2, 0, 1, 1));
        refused("ACT 2 of person 1", INDEX, () -> x.bring(0, 2, 1, 1));
        x.acts(2);
        due("two again", x.count(0), 2);
    }

    @Says("IllegalArgumentException: not 2 or 3.")
    static void p04_notTwoOrThreeIsRefused() {
        int[] none = {1, 4, 0, -1, -2, FAR[0], FAR[1]};
        for (int n : none) {
            refusedAndNothingChanges("acts " + n, ARGUMENT, Checks::full, x -> x.acts(n));
            refusedAndNothingChanges("acts " + n + " of three", ARGUMENT, Checks::fullWithThreeActs, x -> x.acts(n));
        }
    }

    @Says("(What was told of ACT 2 stays.)")
    static void p04_whatWasToldOfAct2StaysAsThereAreTwo() {
        KeptWell x = new KeptWell();
        x.acts(3);
        int[][] pairs = {{0, 2}, {1, 2}, {2, 0}, {2, 1}, {2, 2}};
        for (int i = 0; i < pairs.length; i++) {
            x.bring(pairs[i][0], pairs[i][1], 10 + i, -20 - i);
        }
        way(x, "does 2, 2 to 1; does 0, 2 to 0");
        x.acts(2);
        due("one CORNER of two ACTS", x.count(11), 1);
        x.acts(3);
        for (int i = 0; i < pairs.length; i++) {
            row(x, pairs[i][0], pairs[i][1]);
            due("BROUGHT by pair " + i, x.brought(0), 10 + i);
            due("BROUGHT by pair " + i, x.brought(1), -20 - i);
        }
        due("the ACT of a WAY", x.mood(0, 0, 2), 2);
        due("into which MOOD as 2 was seen", x.mood(0, 0, 5), 1);
    }

    // ---- promise 5: bring ----

    @Says({"BRINGS.", "BRINGS: what each gets of a day by both ACTS"})
    static void p05_theFirstOfEachIsPersonZeros() {
        KeptWell x = new KeptWell();
        x.bring(0, 1, 5, -6);
        row(x, 0, 1);
        due("person 0", x.brought(0), 5);
        due("person 1", x.brought(1), -6);
        row(x, 1, 0);
        due("the other pair", x.brought(0), 0);
        x.bring(0, 1, 7, 8);
        row(x, 0, 1);
        due("told anew", x.brought(0), 7);
        due("told anew", x.brought(1), 8);
    }

    @Says("(- 99 to 99;")
    static void p05_99AndMinus99AreNumbers() {
        KeptWell x = new KeptWell();
        x.bring(0, 0, 99, -99);
        x.bring(1, 1, -99, 99);
        due("across", x.corner(0, false), -99);
        due("up", x.corner(0, true), 99);
        row(x, 0, 0);
        due("person 0", x.brought(0), 99);
        due("person 1", x.brought(1), -99);
    }

    @Says("IllegalArgumentException: a number is none.")
    static void p05_otherNumbersAreRefused() {
        int[] none = {100, -100, FAR[0], FAR[1]};
        for (int n : none) {
            refusedAndNothingChanges("first " + n, ARGUMENT, Checks::full, x -> x.bring(0, 0, n, 7));
            refusedAndNothingChanges("second " + n, ARGUMENT, Checks::full, x -> x.bring(0, 0, 7, n));
        }
    }

    @Says("IndexOutOfBoundsException: there is no such person, ACT,")
    static void p05_noSuchActIsRefused() {
        int[] none = {-1, 2, 3, FAR[0], FAR[1]};
        for (int act : none) {
            refusedAndNothingChanges("ACT " + act, INDEX, Checks::full, x -> x.bring(act, 0, 7, 7));
            refusedAndNothingChanges("for ACT " + act, INDEX, Checks::full, x -> x.bring(0, act, 7, 7));
        }
        KeptWell three = fullWithThreeActs();
        three.bring(2, 2, 7, 7);
        refused("ACT 3 of three", INDEX, () -> three.bring(3, 0, 7, 7));
        refused("for ACT 3 of three", INDEX, () -> three.bring(0, 3, 7, 7));
    }

    @Says("Of several exceptions the one told first is thrown;")
    static void p05_noSuchActComesAheadOfANumberThatIsNone() {
        KeptWell x = new KeptWell();
        refused("no such ACT, no number", INDEX, () -> x.bring(2, 0, 100, 100));
        refused("for no such ACT, no number", INDEX, () -> x.bring(0, -1, -100, 0));
    }

    // ---- promise 6: tomorrow ----

    @Says({"TOMORROW.", "TOMORROW counts P / Q of to-day (0 < P < Q <= 9;"})
    static void p06_allFractionsBelowOneWithQUpToNine() {
        KeptWell x = new KeptWell();
        for (int q = 2; q <= 9; q++) {
            for (int p = 1; p < q; p++) {
                x.tomorrow(p, q);
                due("P of " + p + "/" + q, x.count(3), p);
                due("Q of " + p + "/" + q, x.count(4), q);
            }
        }
    }

    @Says("IllegalArgumentException: it is none")
    static void p06_fractionsThatAreNoneAreRefused() {
        int[][] none = {{0, 2}, {-1, 2}, {1, 1}, {2, 2}, {9, 9}, {3, 2}, {9, 8}, {1, 10}, {9, 10}, {1, 0}, {0, 1}, {0, 0},
            {-2, -1}, {-1, -2}, {1, -2}, {FAR[0], 9}, {1, FAR[0]}, {1, FAR[1]}, {FAR[1], 9}, {FAR[0], FAR[1]},
            {FAR[1], FAR[0]}};
        for (int[] pq : none) {
            refusedAndNothingChanges("tomorrow " + pq[0] + " / " + pq[1], ARGUMENT, Checks::full,
                    x -> x.tomorrow(pq[0], pq[1]));
        }
    }

    @Says("(P / Q need not be without a common part).")
    static void p06_aCommonPartIsNoFault() {
        KeptWell x = twoAtTheWell();
        x.tomorrow(6, 9);
        due("WORTH by 6 / 9", x.worth(0, 0, 0, 0, 0, false), 9);
        due("WORTH by 6 / 9, below", x.worth(0, 0, 0, 0, 0, true), 1);
        x.tomorrow(4, 8);
        due("WORTH by 4 / 8", x.worth(2, 0, 2, 1, 1, false), 20);
        due("WORTH by 4 / 8, below", x.worth(2, 0, 2, 1, 1, true), 3);
    }
}
