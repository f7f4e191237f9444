/** Promises 29 to 36, THE FIELD, STAYS, ALL WAYS and BEGIN: each sentence that names a boundary. */
public final class Boundaries29To36Test extends Checks {
    public static void main(String[] args) {
        run(Boundaries29To36Test.class);
    }

    /** Three WAYS that do their number for ever, one ROUND: of nine pairs in a row what the first gets by the second. */
    private static KeptWell whoGets(int... gets) {
        KeptWell x = new KeptWell();
        x.acts(3);
        x.rounds(1);
        for (int cell = 0; cell < 9; cell++) {
            x.bring(cell / 3, cell % 3, gets[cell] - 99, 0);
        }
        ways(x, "does 0", "does 1", "does 2");
        return x;
    }

    private static void fill(KeptWell x, int... beings) {
        for (int way = 0; way < beings.length; way++) {
            x.field(way, beings[way]);
        }
    }

    // ---- promise 29: field ----

    @Says({"Beings of a WAY in THE FIELD.", "(0 to 1000; 0 at first)."})
    static void p29_noneAndAThousand() {
        KeptWell x = twoAtTheWell();
        x.field(3, 1000);
        due("a thousand", x.beings(3), 1000);
        x.field(3, 1);
        due("in place of these", x.beings(3), 1);
        x.field(3, 0);
        due("none", x.beings(3), 0);
        due("of another WAY", x.beings(2), 0);
    }

    @Says("IllegalArgumentException: the number is none.")
    static void p29_numbersThatAreNone() {
        int[] none = {-1, 1001, FAR[0], FAR[1]};
        for (int n : none) {
            refusedAndNothingChanges("number " + n, ARGUMENT, Checks::full, x -> x.field(1, n));
        }
    }

    @Says({"IndexOutOfBoundsException: there is no such person, ACT, WAY,", "Of several exceptions the one told first is thrown;"})
    static void p29_noSuchWayAlsoAheadOfANumberThatIsNone() {
        int[] none = {-1, 4, 8, FAR[0], FAR[1]};
        for (int n : none) {
            refusedAndNothingChanges("WAY " + n, INDEX, Checks::full, x -> x.field(n, 1));
            refusedAndNothingChanges("WAY " + n + ", no number", INDEX, Checks::full, x -> x.field(n, 1001));
        }
    }

    @Says("THE FIELD: of each WAY (not BARRED) a number of beings")
    static void p29_beingsOfABarredWayAreKeptForItsTime() {
        KeptWell x = new KeptWell();
        ways(x, "does 2", GOOD);
        x.field(0, 5);
        due("as long as it is BARRED", x.beings(0), 5);
        x.acts(3);
        due("and behind", x.beings(0), 5);
    }

    // ---- promise 30: rounds ----

    @Says({"ROUNDS.", "for so many ROUNDS (1 to 30; 10 at first),"})
    static void p30_oneAndThirty() {
        KeptWell x = twoAtTheWell();
        x.rounds(1);
        due("one", x.count(9), 1);
        due("MEET in one", x.meet(0, 0), 102);
        x.rounds(30);
        due("thirty", x.count(9), 30);
        due("MEET in thirty", x.meet(0, 0), 3060);
    }

    @Says("IllegalArgumentException: they are none.")
    static void p30_roundsThatAreNone() {
        int[] none = {0, -1, 31, FAR[0], FAR[1]};
        for (int n : none) {
            refusedAndNothingChanges("rounds " + n, ARGUMENT, Checks::full, x -> x.rounds(n));
        }
    }

    // ---- promise 31: meet ----

    @Says({"What a WAY gets as person 0 against another one in ROUNDS (with 99 for each).",
        "MEET: each WAY with each one", "as person 0 against it as person 1: what it brings person 0 in all,"})
    static void p31_whatTheFirstGetsFromMoodsZeroOn() {
        KeptWell x = twoAtTheWell();
        x.rounds(3);
        due("good and good", x.meet(0, 0), 306);
        due("good and bad", x.meet(0, 1), 297);
        due("bad and good", x.meet(1, 0), 312);
        due("bad and a mirror: 5, 1, 1", x.meet(1, 2), 304);
        due("a mirror and bad: 0, 1, 1", x.meet(2, 1), 299);
        due("a mirror with itself", x.meet(2, 2), 306);
        due("again, from MOODS 0", x.meet(2, 1), 299);
    }

    @Says("and 99 more for each ROUND (at least 0).")
    static void p31_theLeastAndTheMost() {
        KeptWell x = game(-99, 99, 99, -99, 0, 0, 0, 0);
        ways(x, GOOD, BAD);
        for (int rounds = 1; rounds <= 30; rounds += 29) {
            x.rounds(rounds);
            due("the least", x.meet(0, 0), 0);
            due("the most", x.meet(0, 1), 198 * rounds);
        }
    }

    @Says("without mistakes,")
    static void p31_withoutMistakes() {
        KeptWell x = twoAtTheWell();
        x.mistakes(8, 9);
        due("two mirrors", x.meet(2, 2), 1020);
        x.acts(3);
        due("with three ACTS", x.meet(2, 2), 1020);
    }

    @Says({"IllegalStateException.", "IllegalStateException: a WAY is BARRED,"})
    static void p31_aBarredWayIsRefused() {
        refusedAndNothingChanges("BARRED", STATE, Checks::full, x -> x.meet(2, 0));
        refusedAndNothingChanges("the other one BARRED", STATE, Checks::full, x -> x.meet(0, 2));
        due("with three ACTS: 18 and 99, seven times", fullWithThreeActs().meet(2, 2), 819);
    }

    @Says({"IndexOutOfBoundsException: there is no such person, ACT, WAY,", "Of several exceptions the one told first is thrown;"})
    static void p31_noSuchWayAlsoAheadOfBarred() {
        int[] none = {-1, 4, 8, FAR[0], FAR[1]};
        for (int n : none) {
            refusedAndNothingChanges("WAY " + n, INDEX, Checks::full, x -> x.meet(n, 2));
            refusedAndNothingChanges("the other WAY " + n, INDEX, Checks::full, x -> x.meet(2, n));
        }
    }

    // ---- promise 32: grow ----

    @Says({"FIT: of a WAY: the sum of that, times the number of those whom it meets.",
        "GROW: a step: of all beings N each WAY gets its part by its number times FIT: rounded down,"})
    static void p32_partsByNumberTimesFit() {
        KeptWell x = twoAtTheWell();
        x.rounds(3);
        fill(x, 1000, 1000);
        // 306 and 297 make 603, 312 and 300 make 612: of 2000 beings 992.6 and 1007.4
        due("a change", x.grow(1), 1);
        due("good ones", x.beings(0), 993);
        due("bad ones", x.beings(1), 1007);
        // a part that is whole: 2 of 3, by 20 and 10
        KeptWell y = whoGets(0, 0, 0, 10, 0, 0, 10, 10, 0);
        fill(y, 1, 1, 1);
        due("a change", y.grow(1), 1);
        due("0, 1 and 2", beings(y, 3, 10), 12);
    }

    @Says("the rest one by one to those with the greatest rests,")
    static void p32_theRestGoesToTheGreatestRests() {
        KeptWell x = whoGets(7, 0, 0, 0, 7, 0, 2, 0, 0);
        fill(x, 1, 1, 3);
        // 7, 7 and 6 of 20, five beings: 1 3/4, 1 3/4, 1 1/2
        x.grow(1);
        due("two are left", beings(x, 3, 10), 221);
        KeptWell y = whoGets(2, 0, 0, 0, 2, 0, 0, 0, 1);
        fill(y, 1, 1, 1);
        // 2, 2 and 1 of 5, three beings: 1 1/5, 1 1/5, 3/5
        due("one is left: nothing changes", y.grow(1), 0);
        due("one is left", beings(y, 3, 10), 111);
    }

    @Says("of several the lesser number")
    static void p32_ofSeveralRestsTheLesserNumber() {
        KeptWell x = whoGets(1, 0, 0, 0, 1, 0, 0, 0, 5);
        fill(x, 1, 1, 1);
        // 1, 1 and 5 of 7, three beings: 3/7, 3/7, 2 1/7
        x.grow(1);
        due("0 ahead of 1", beings(x, 3, 10), 102);
        KeptWell y = whoGets(2, 0, 0, 0, 2, 0, 1, 0, 0);
        fill(y, 1, 1, 2);
        // each the same of 4: 1 1/3
        y.grow(1);
        due("0 ahead of 1 and 2", beings(y, 3, 10), 211);
        KeptWell z = whoGets(4, 0, 0, 0, 1, 0, 0, 0, 1);
        fill(z, 1, 2, 2);
        // each the same of 5: 1 2/3
        z.grow(1);
        due("0 and 1 ahead of 2", beings(z, 3, 10), 221);
    }

    @Says("(nothing changes, if that is 0 together).")
    static void p32_nothingChangesIfThatIsZeroTogether() {
        KeptWell x = whoGets(0, 9, 9, 9, 0, 9, 9, 9, 0);
        due("without beings", x.grow(50), 0);
        fill(x, 1000, 0, 0);
        due("alone with FIT 0", x.grow(50), 0);
        due("alone with FIT 0", x.beings(0), 1000);
        fill(x, 1, 1, 0);
        due("two that get something", x.grow(50), 0);
        due("a half each", beings(x, 3, 10), 110);
    }

    @Says("each WAY gets its part by its number times FIT:")
    static void p32_whoHasNoBeingsOrNoFitGetsNone() {
        KeptWell x = whoGets(1, 0, 0, 0, 0, 9, 9, 9, 9);
        fill(x, 3, 4, 0);
        due("a change", x.grow(1), 1);
        due("all to 0", beings(x, 3, 10), 700);
        due("alone nothing changes", x.grow(50), 0);
        due("alone", beings(x, 3, 10), 700);
    }

    @Says({"GROW so many steps: how many of these changed something.", "IllegalArgumentException: not 0 to 50."})
    static void p32_howManyStepsChangedSomething() {
        int[] steps = {0, 1, 2, 3, 50};
        int[] changes = {0, 1, 2, 2, 2};
        int[] after = {113, 221, 320, 320, 320};
        for (int i = 0; i < steps.length; i++) {
            KeptWell x = whoGets(7, 0, 0, 0, 7, 0, 2, 0, 0);
            fill(x, 1, 1, 3);
            // then 28, 28 and 4 of 60: 2 1/3, 2 1/3 and 1/3; then 63 and 28 of 91: 3.46 and 1.54
            due("steps " + steps[i], x.grow(steps[i]), changes[i]);
            due("beings", beings(x, 3, 10), after[i]);
        }
    }

    @Says("IllegalArgumentException: not 0 to 50.")
    static void p32_stepsThatAreNone() {
        int[] none = {-1, 51, FAR[0], FAR[1]};
        for (int n : none) {
            refusedAndNothingChanges("steps " + n, ARGUMENT, Checks::full, x -> x.grow(n));
        }
    }

    @Says("GROW so many steps:")
    static void p32_fiftyStepsAtOnceOrOneByOne() {
        KeptWell x = twoAtTheWell();
        fill(x, 900, 100);
        KeptWell y = twoAtTheWell();
        fill(y, 900, 100);
        int changes = 0;
        for (int i = 0; i < 50; i++) {
            changes += y.grow(1);
        }
        due("changes", x.grow(50), changes);
        due("some changes", changes > 10, true);
        due("beings", beings(x, 4, 1000), beings(y, 4, 1000));
        due("none is lost", x.count(8), 1000);
    }

    @Says("(BARRED ones: no beings of theirs meet or grow.)")
    static void p32_barredOnesNeitherMeetNorGrow() {
        KeptWell x = whoGets(1, 1, 9, 2, 2, 9, 9, 9, 9);
        fill(x, 3, 3, 6);
        x.acts(2);
        due("a change", x.grow(1), 1);
        due("of six 2 and 4", beings(x, 3, 10), 246);
        x.acts(3);
        // 2 times 60, 4 times 66, 6 times 108 of 1032: 1.4, 3.07 and 7.5 of twelve
        due("a change", x.grow(1), 1);
        due("of twelve", beings(x, 3, 100), 10308);
        x.acts(2);
        fill(x, 0, 0, 7);
        due("BARRED ones alone", x.grow(50), 0);
        due("BARRED ones alone", x.beings(2), 7);
    }

    @Says("of all beings N")
    static void p32_asManyBeingsAsCallsCanBring() {
        KeptWell x = new KeptWell();
        x.rounds(30);
        x.bring(0, 0, 99, 0);
        x.bring(0, 1, 99, 0);
        x.bring(1, 0, -99, 0);
        x.bring(1, 1, -99, 0);
        ways(x, GOOD, BAD, BAD, BAD, BAD, BAD, BAD, BAD);
        x.field(0, 1000);
        for (int time = 0; time < 57; time++) {
            for (int way = 1; way < 8; way++) {
                x.field(way, 1000);
            }
            x.grow(1);
        }
        due("all come to one", x.beings(0), 400000);
        due("in all", x.count(8), 400000);
    }

    // ---- promise 33: beings ----

    @Says("How many beings of a WAY there are.")
    static void p33_howManyThereAre() {
        KeptWell x = twoAtTheWell();
        due("at first", x.beings(0), 0);
        fill(x, 1, 2, 3, 1000);
        for (int way = 0; way < 4; way++) {
            due("WAY " + way, x.beings(way), way == 3 ? 1000 : way + 1);
        }
        due("a new WAY", x.beings(way(x, GOOD)), 0);
    }

    @Says("IndexOutOfBoundsException: there is no such person, ACT, WAY,")
    static void p33_noSuchWay() {
        int[] none = {-1, 4, 8, FAR[0], FAR[1]};
        for (int n : none) {
            refusedAndNothingChanges("WAY " + n, INDEX, Checks::full, x -> x.beings(n));
        }
        due("a BARRED one has beings", full().beings(2), 8);
    }

    // ---- promise 34: stays ----

    @Says({"Whether a WAY STAYS.", "STAYS of a WAY: against each other one that is not BARRED:",
        "it gets more against itself than that one against it,"})
    static void p34_moreAgainstItself() {
        KeptWell x = whoGets(5, 0, 0, 4, 9, 9, 4, 9, 9);
        due("5 above 4", x.stays(0), true);
        x.bring(2, 0, 6 - 99, 0);
        due("6 of the last one above 5", x.stays(0), false);
        x.bring(2, 0, 4 - 99, 0);
        x.bring(1, 0, 6 - 99, 0);
        due("6 of the first one above 5", x.stays(0), false);
        KeptWell y = twoAtTheWell();
        due("bad", y.stays(1), true);
        due("good", y.stays(0), false);
    }

    @Says("or as much, and more against that one than that one against itself.")
    static void p34_asMuchAndMoreAgainstThatOne() {
        KeptWell x = whoGets(5, 4, 4, 5, 4, 0, 5, 0, 3);
        due("as much, and as much against that one", x.stays(0), false);
        x.bring(0, 1, 5 - 99, 0);
        due("as much, and more against that one", x.stays(0), true);
        x.bring(2, 2, 4 - 99, 0);
        due("the last one as much against itself", x.stays(0), false);
        x.bring(2, 2, 5 - 99, 0);
        due("the last one more against itself", x.stays(0), false);
        x.bring(2, 0, 4 - 99, 0);
        due("less against it", x.stays(0), true);
    }

    @Says("against each other one that is not BARRED:")
    static void p34_aloneOrAgainstBarredOnes() {
        KeptWell x = new KeptWell();
        way(x, GOOD);
        due("alone", x.stays(0), true);
        way(x, "does 2");
        due("against one that is BARRED", x.stays(0), true);
        x.acts(3);
        due("against the same with three ACTS", x.stays(0), false);
        x.acts(2);
        way(x, GOOD);
        due("against one that does the same", x.stays(0), false);
        due("the same the other way round", x.stays(2), false);
    }

    @Says("STAYS of a WAY: against each other one that is not BARRED:")
    static void p34_eachOtherOneCounts() {
        for (int one = 0; one < 8; one++) {
            for (int other = 0; other < 8; other++) {
                KeptWell x = game(0, 0, 0, 0, 1, 0, 0, 0);
                for (int i = 0; i < 8; i++) {
                    // the others get less against themselves, and nothing more against that one
                    way(x, i == one ? GOOD : i == other ? BAD : "does 2");
                }
                due("WAY " + one + " against WAY " + other, x.stays(one), one == other);
                x.bring(1, 0, -1, 0);
                due("WAY " + one + " against WAY " + other + " that gets less", x.stays(one), true);
            }
        }
    }

    @Says({"IllegalStateException.", "IllegalStateException: a WAY is BARRED,"})
    static void p34_aBarredWayIsRefused() {
        refusedAndNothingChanges("BARRED", STATE, Checks::full, x -> x.stays(2));
        fullWithThreeActs().stays(2);
    }

    @Says("IndexOutOfBoundsException: there is no such person, ACT, WAY,")
    static void p34_noSuchWay() {
        int[] none = {-1, 4, 8, FAR[0], FAR[1]};
        for (int n : none) {
            refusedAndNothingChanges("WAY " + n, INDEX, Checks::full, x -> x.stays(n));
        }
    }

    // ---- promise 35: all ----

    private static void dueAll(String what, KeptWell x, int way, int hold, int best, int leastBest, int leastHold) {
        int[] due = {hold, best, leastBest, leastHold};
        for (int i = 0; i < 4; i++) {
            due(what + ", what " + i, x.all(way, i), due[i]);
        }
    }

    /** Person 1 gets 1 if it does the same as person 0; person 0 gets nothing. */
    private static KeptWell toDoTheSame(String way) {
        KeptWell x = game(0, 1, 0, 0, 0, 0, 0, 1);
        way(x, way);
        return x;
    }

    @Says({"ALL WAYS, what 0 how many HOLD, 1 how many are best, 2 the least of these, 3 the least that HOLDS (NONE).",
        "how many of them HOLD with it;", "how many are worth to person 1 as much as the best answer; the least of these; NONE.",
        "from MOOD 1 likewise: 64."})
    static void p35_allSixtyFourAndNone() {
        KeptWell x = new KeptWell();
        way(x, GOOD);
        dueAll("all bring nothing", x, 0, 64, 64, 0, 0);
        KeptWell y = twoAtTheWell();
        dueAll("good: none HOLDS, whoever is bad as long as it lasts is best", y, 0, 0, 16 + 8, 1, -1);
        dueAll("bad", y, 1, 16, 16 + 8, 1, 3);
        dueAll("three MOODS by turns", toDoTheSame("does 0, any to 1; does 0, any to 2; does 1, any to 0"), 0, 0, 0, -1, -1);
        dueAll("good: two good MOODS HOLD", toDoTheSame(GOOD), 0, 16, 16 + 8, 0, 0);
        dueAll("bad: two bad MOODS HOLD", toDoTheSame(BAD), 0, 16, 16 + 8, 1, 3);
    }

    @Says({"ALL WAYS of two MOODS, with 2 ACTS: number: bits 0, 1 the ACTS in MOOD 0, 1;",
        "bits 2 to 5: into which MOOD, from MOOD 0 as 0, 1 was seen, from MOOD 1 likewise: 64."})
    static void p35_whatEachBitSays() {
        dueAll("0, 1, 0, 1: bits 1 and 2, not 0 and 5", toDoTheSame("does 0, any to 1; does 1, any to 0"), 0, 0, 4, 6, -1);
        dueAll("1, 0, 1, 0: bits 0 and 3, not 1 and 4", toDoTheSame("does 1, any to 1; does 0, any to 0"), 0, 0, 4, 9, -1);
        dueAll("0, 1, 1, 1: bits 1, 2 and 5, not 0", toDoTheSame("does 0, any to 1; does 1"), 0, 0, 4, 38, -1);
        dueAll("1, 0, 0, 0: bits 0, 3 and 4, not 1", toDoTheSame("does 1, any to 1; does 0"), 0, 0, 4, 25, -1);
    }

    @Says("As person 1 against a WAY of person 0:")
    static void p35_asPersonOne() {
        // person 0 gets 1 by doing the same: it gains against who does otherwise, and so none but those HOLD
        KeptWell x = game(1, 0, 0, 0, 0, 0, 1, 0);
        way(x, BAD);
        dueAll("person 1 gets nothing", x, 0, 16, 64, 0, 3);
    }

    @Says("ALL WAYS of two MOODS, with 2 ACTS:")
    static void p35_allWaysAreNoWaysOfTheMeeting() {
        KeptWell x = twoAtTheWell();
        ways(x, GRIM, MIRROR, "does 2", "does 1, any to 1; does 0, 1 to 2; does 1, 2 to 0");
        for (int what = 0; what < 4; what++) {
            x.all(7, what);
        }
        due("WAYS", x.count(1), 8);
        due("MOODS of the last one", x.mood(7, 0, 0), 3);
        int[] last = {1, 1, 1, 1, 0, 1, 2, 1, 1, 2, 2, 0};
        for (int i = 0; i < 12; i++) {
            due("the last one, " + i, x.mood(7, i / 4, 2 + i % 4), last[i]);
        }
        due("MOODS of the first one", x.mood(0, 0, 0), 1);
        refused("there is no WAY 8", INDEX, () -> x.mood(8, 0, 0));
        refused("there is no WAY 8", INDEX, () -> x.all(8, 0));
    }

    @Says({"IllegalStateException (also with 3 ACTS);", "IllegalStateException: a WAY is BARRED,"})
    static void p35_barredOrThreeActs() {
        refusedAndNothingChanges("BARRED", STATE, Checks::full, x -> x.all(2, 0));
        for (int what = 0; what < 4; what++) {
            int asked = what;
            refusedAndNothingChanges("three ACTS", STATE, Checks::fullWithThreeActs, x -> x.all(0, asked));
        }
        KeptWell x = fullWithThreeActs();
        x.acts(2);
        x.all(3, 3);
    }

    @Says("NoSuchElementException: another what.")
    static void p35_anotherWhat() {
        int[] none = {-1, 4, FAR[0], FAR[1]};
        for (int what : none) {
            refusedAndNothingChanges("what " + what, SUCH, Checks::full, x -> x.all(1, what));
        }
    }

    @Says({"IndexOutOfBoundsException: there is no such person, ACT, WAY,", "Of several exceptions the one told first is thrown;"})
    static void p35_wayAheadOfBarredAheadOfWhat() {
        int[] none = {-1, 4, 8, FAR[0], FAR[1]};
        for (int n : none) {
            refusedAndNothingChanges("WAY " + n, INDEX, Checks::full, x -> x.all(n, 0));
            refusedAndNothingChanges("WAY " + n + ", three ACTS", INDEX, Checks::fullWithThreeActs, x -> x.all(n, 4));
        }
        KeptWell x = full();
        refused("BARRED, another what", STATE, () -> x.all(2, 4));
        KeptWell y = fullWithThreeActs();
        refused("three ACTS, another what", STATE, () -> y.all(0, -1));
    }

    // ---- promise 36: begin ----

    @Says({"BEGIN. IllegalStateException.", "BEGIN: what it must cost at least (a whole number, 0 or more)"})
    static void p36_nothingIfNothingIsLost() {
        KeptWell x = twoAtTheWell();
        due("good for ever", x.begin(0, 0), 0);
        ways(x, "does 1, any to 1; does 0");
        // 1, then 3 for ever
        due("better later", x.begin(4, 4), 0);
    }

    @Says({"to leave and begin anew with a stranger of the same WAY, both in MOOD 0,",
        "it is not below what the WORTH from MOODS 0 is above that from these."})
    static void p36_whatIsLostByOneOfBoth() {
        KeptWell x = twoAtTheWell();
        // a bad one against a mirror: 5, then 1 for ever: 6 and 2
        due("person 0 loses 4", x.begin(1, 2), 4);
        due("person 1 loses 4", x.begin(2, 1), 4);
        x.tomorrow(1, 4);
        due("still 4: 5 and a third, 4 thirds", x.begin(1, 2), 4);
    }

    @Says("(a whole number, 0 or more)")
    static void p36_roundedUp() {
        KeptWell x = twoAtTheWell();
        way(x, "does 0, any to 1; does 0, any to 2; does 1");
        // 3, 3 and then 0 for ever: what is lost is 3 and P / Q of 3
        x.tomorrow(1, 3);
        due("4", x.begin(0, 4), 4);
        x.tomorrow(2, 5);
        due("4 1/5", x.begin(0, 4), 5);
        x.tomorrow(2, 3);
        due("5", x.begin(0, 4), 5);
        x.tomorrow(5, 8);
        due("4 7/8", x.begin(0, 4), 5);
        x.tomorrow(1, 9);
        due("3 1/3", x.begin(4, 0), 4);
    }

    @Says("(a whole number, 0 or more)")
    static void p36_theLeastThatIsLostAndAGreatLoss() {
        KeptWell x = new KeptWell();
        x.acts(3);
        x.bring(0, 0, 1, 0);
        ways(x, "does 0, 2 to 1; does 1, 2 to 2; does 2, 2 to 0", "does 0, any to 1; does 1, any to 2; does 2, any to 0");
        due("510 / 511", x.begin(0, 1), 1);
        // on the ninth day 99 is lost, and then all begins again: 99 times 510 / 511
        x.bring(0, 0, 0, 0);
        x.bring(2, 2, -99, 0);
        due("on the ninth day", x.begin(0, 1), 99);
        x.bring(2, 2, 0, -99);
        due("person 1 on the ninth day", x.begin(0, 1), 99);
        KeptWell y = game(99, 0, 0, 0, 0, 0, -99, 0);
        way(y, "does 0, any to 1; does 1");
        due("198", y.begin(0, 0), 198);
        y.tomorrow(8, 9);
        due("198, whatever tomorrow counts", y.begin(0, 0), 198);
        KeptWell z = game(0, 99, 0, 0, 0, 0, 0, -99);
        ways(z, "does 0, any to 1; does 0, any to 2; does 1", GOOD);
        z.tomorrow(8, 9);
        // 99 and 99, then -99 for ever: 99 and 88 above 11 times -8
        due("374", z.begin(0, 0), 374);
    }

    @Says("so that nobody gains by it in any MOODS that are come to from MOODS 0:")
    static void p36_onlyInMoodsThatAreComeTo() {
        KeptWell x = twoAtTheWell();
        ways(x, "does 0; does 1", "does 0, any to 1; does 1, any to 0");
        due("MOODS never come to", x.begin(0, 4), 0);
        due("two mirrors stay in MOODS 0", x.begin(2, 2), 0);
        // 3 and 5 by turns, and 3 and 0 for person 1: 4 and 2
        due("by turns", x.begin(5, 0), 2);
        due("by turns", x.begin(0, 5), 2);
    }

    @Says({"IllegalStateException: a WAY is BARRED,", "BEGIN. IllegalStateException."})
    static void p36_aBarredWayIsRefused() {
        refusedAndNothingChanges("BARRED", STATE, Checks::full, x -> x.begin(2, 0));
        refusedAndNothingChanges("the other one BARRED", STATE, Checks::full, x -> x.begin(0, 2));
        due("with three ACTS", fullWithThreeActs().begin(2, 2), 0);
    }

    @Says({"IndexOutOfBoundsException: there is no such person, ACT, WAY,", "Of several exceptions the one told first is thrown;"})
    static void p36_noSuchWayAlsoAheadOfBarred() {
        int[] none = {-1, 4, 8, FAR[0], FAR[1]};
        for (int n : none) {
            refusedAndNothingChanges("WAY " + n, INDEX, Checks::full, x -> x.begin(n, 2));
            refusedAndNothingChanges("the other WAY " + n, INDEX, Checks::full, x -> x.begin(2, n));
        }
    }
}
