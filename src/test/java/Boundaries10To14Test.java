/** Promises 10 to 14, WORTH, HOLD, FIRST and the BEST ANSWER: each sentence that names a boundary. */
public final class Boundaries10To14Test extends Checks {
    public static void main(String[] args) {
        run(Boundaries10To14Test.class);
    }

    private static void dueFraction(String what, long up, long down, long wantUp, long wantDown) {
        due(what + ", above", up, wantUp);
        due(what + ", below", down, wantDown);
    }

    private static void dueWorth(String what, KeptWell x, int[] of, long wantUp, long wantDown) {
        dueFraction(what, x.worth(of[0], of[1], of[2], of[3], of[4], false),
                x.worth(of[0], of[1], of[2], of[3], of[4], true), wantUp, wantDown);
    }

    /** A PAIR's WAYS and MOODS, and a person. */
    private static int[] of(int a, int moodA, int b, int moodB, int person) {
        return new int[] {a, moodA, b, moodB, person};
    }

    /** Two WAYS that come through all nine pairs of MOODS; only the first pair brings something. */
    private static KeptWell nineInARing() {
        KeptWell x = new KeptWell();
        x.acts(3);
        x.bring(0, 0, 1, -1);
        ways(x, "does 0, 2 to 1; does 1, 2 to 2; does 2, 2 to 0",
                "does 0, any to 1; does 1, any to 2; does 2, any to 0");
        return x;
    }

    /** MOODS do their number, and all stay; all ACTS bring 0. */
    private static KeptWell threeThatStay() {
        KeptWell x = new KeptWell();
        x.acts(3);
        ways(x, "does 0; does 1; does 2");
        return x;
    }

    // ---- promise 10: worth ----

    @Says({"WORTH to a person, what stands above (below false) or below.",
        "FRACTIONS are told as two numbers without a common part,"})
    static void p10_withoutACommonPart() {
        KeptWell x = game(4, 6, 0, 0, 0, 0, 0, 0);
        way(x, GOOD);
        int[] both = of(0, 0, 0, 0, 0);
        dueWorth("4 over 1 / 2", x, both, 8, 1);
        x.tomorrow(1, 4);
        dueWorth("4 over 3 / 4", x, both, 16, 3);
        dueWorth("6 over 3 / 4", x, of(0, 0, 0, 0, 1), 8, 1);
        x.tomorrow(2, 8);
        dueWorth("4 over 6 / 8", x, both, 16, 3);
        x.tomorrow(2, 7);
        dueWorth("4 over 5 / 7", x, both, 28, 5);
    }

    @Says("the lower one above 0.")
    static void p10_theLowerOneIsAboveZero() {
        KeptWell x = game(0, -1, 0, 0, 0, 0, 0, 0);
        way(x, GOOD);
        dueWorth("nothing", x, of(0, 0, 0, 0, 0), 0, 1);
        dueWorth("below 0", x, of(0, 0, 0, 0, 1), -2, 1);
        x.tomorrow(1, 3);
        dueWorth("nothing", x, of(0, 0, 0, 0, 0), 0, 1);
        dueWorth("below 0", x, of(0, 0, 0, 0, 1), -3, 2);
    }

    @Says({"A PAIR: two WAYS (the first of person 0, the second of person 1),", "from a MOOD each on"})
    static void p10_theFirstWayIsPersonZerosFromAMoodEach() {
        KeptWell x = twoAtTheWell();
        dueWorth("good and bad, person 0", x, of(0, 0, 1, 0, 0), 0, 1);
        dueWorth("good and bad, person 1", x, of(0, 0, 1, 0, 1), 10, 1);
        dueWorth("bad and good, person 0", x, of(1, 0, 0, 0, 0), 10, 1);
        // a grim one in MOOD 1 is bad for ever
        dueWorth("grim in MOOD 1 and good", x, of(3, 1, 0, 0, 0), 10, 1);
        dueWorth("good and grim in MOOD 1", x, of(0, 0, 3, 1, 0), 0, 1);
        dueWorth("two mirrors in MOODS 1 and 0", x, of(2, 1, 2, 0, 0), 20, 3);
        dueWorth("two mirrors in MOODS 0 and 1", x, of(2, 0, 2, 1, 0), 10, 3);
    }

    @Says("WORTH to a person: what it brings to-day, and P / Q of what it is worth from the MOODS of tomorrow on: a FRACTION.")
    static void p10_fromMoodsThatLeadIntoOthers() {
        KeptWell x = twoAtTheWell();
        way(x, "does 0, any to 1; does 1, any to 2; does 0");
        // 3, then 5, then 3 for ever
        dueWorth("by halves", x, of(4, 0, 0, 0, 0), 7, 1);
        x.tomorrow(1, 3);
        // 3 and 1/3 of (5 and 1/3 of 9/2)
        dueWorth("by thirds", x, of(4, 0, 0, 0, 0), 31, 6);
        dueWorth("from MOOD 1 on", x, of(4, 1, 0, 0, 0), 13, 2);
        dueWorth("from MOOD 2 on", x, of(4, 2, 0, 0, 0), 9, 2);
    }

    @Says("WORTH to a person: what it brings to-day, and P / Q of what it is worth")
    static void p10_theMostAndTheLeastThereIs() {
        KeptWell x = game(99, -99, 0, 0, 0, 0, 0, 0);
        way(x, GOOD);
        x.tomorrow(8, 9);
        dueWorth("the most", x, of(0, 0, 0, 0, 0), 891, 1);
        dueWorth("the least", x, of(0, 0, 0, 0, 1), -891, 1);
    }

    @Says("FRACTIONS are told as two numbers without a common part,")
    static void p10_nineMoodsInARing() {
        KeptWell x = nineInARing();
        dueWorth("by 1 / 2", x, of(0, 0, 1, 0, 0), 512, 511);
        dueWorth("by 1 / 2, of eight days on", x, of(0, 0, 1, 1, 0), 2, 511);
        dueWorth("by 1 / 2, a day before", x, of(0, 2, 1, 2, 1), -256, 511);
        x.tomorrow(8, 9);
        // 9^9 over 9^9 less 8^9
        dueWorth("by 8 / 9", x, of(0, 0, 1, 0, 0), 387420489L, 253202761L);
        // 9 times 8^8
        dueWorth("by 8 / 9, of eight days on", x, of(0, 0, 1, 1, 0), 150994944L, 253202761L);
        x.bring(0, 0, 99, -99);
        dueWorth("99 of it", x, of(0, 0, 1, 0, 1), -99 * 387420489L, 253202761L);
    }

    @Says("IndexOutOfBoundsException: there is no such person, ACT, WAY, MOOD,")
    static void p10_aWayThatIsNoMoreIsNone() {
        KeptWell x = twoAtTheWell();
        x.image();
        ways(x, GOOD, BAD, GOOD, BAD);
        x.worth(7, 0, 4, 0, 0, false);
        // ALL WAYS are looked at, and none of them is a WAY of the meeting
        x.all(0, 0);
        refused("WAY 8", INDEX, () -> x.worth(8, 0, 0, 0, 0, false));
        refused("the other WAY 8", INDEX, () -> x.worth(0, 0, 8, 0, 0, false));
        x.back();
        refused("WAY 4 after back", INDEX, () -> x.worth(4, 0, 0, 0, 0, false));
        refused("the other WAY 7 after back", INDEX, () -> x.worth(0, 0, 7, 0, 0, false));
    }

    @Says("IndexOutOfBoundsException: there is no such person, ACT, WAY, MOOD,")
    static void p10_noSuchWayMoodOrPerson() {
        int[] none = {-1, 4, FAR[0], FAR[1]};
        for (int n : none) {
            refusedAndNothingChanges("WAY " + n, INDEX, Checks::full, x -> x.worth(n, 0, 0, 0, 0, false));
            refusedAndNothingChanges("the other WAY " + n, INDEX, Checks::full, x -> x.worth(0, 0, n, 0, 0, false));
        }
        int[] noMood = {-1, 2, FAR[0], FAR[1]};
        for (int n : noMood) {
            refusedAndNothingChanges("MOOD " + n, INDEX, Checks::full, x -> x.worth(1, n, 3, 2, 0, true));
            refusedAndNothingChanges("the other MOOD " + n, INDEX, Checks::full, x -> x.worth(3, 2, 1, n, 0, true));
            refusedAndNothingChanges("person " + n, INDEX, Checks::full, x -> x.worth(0, 0, 0, 0, n, true));
        }
        KeptWell x = full();
        refused("MOOD 1 of one", INDEX, () -> x.worth(0, 1, 0, 0, 0, false));
        refused("MOOD 3 of three", INDEX, () -> x.worth(0, 0, 3, 3, 0, false));
        x.worth(3, 2, 1, 1, 1, false);
    }

    @Says({"IllegalStateException.", "IllegalStateException: a WAY is BARRED,"})
    static void p10_aBarredWayIsRefused() {
        refusedAndNothingChanges("first", STATE, Checks::full, x -> x.worth(2, 0, 0, 0, 0, false));
        refusedAndNothingChanges("second", STATE, Checks::full, x -> x.worth(0, 0, 2, 0, 0, false));
        refusedAndNothingChanges("both", STATE, Checks::full, x -> x.worth(2, 0, 2, 0, 1, true));
        KeptWell x = fullWithThreeActs();
        // 2 and 2 bring 18 and -14, by 3 / 5
        dueWorth("with three ACTS", x, of(2, 0, 2, 0, 0), 45, 1);
        dueWorth("with three ACTS", x, of(2, 0, 2, 0, 1), -35, 1);
    }

    @Says("Of several exceptions the one told first is thrown;")
    static void p10_whatIsNotThereComesAheadOfBarred() {
        KeptWell x = full();
        refused("MOOD", INDEX, () -> x.worth(2, 1, 0, 0, 0, false));
        refused("the other WAY", INDEX, () -> x.worth(2, 0, 4, 0, 0, false));
        refused("the other MOOD", INDEX, () -> x.worth(2, 0, 0, 1, 0, false));
        refused("person", INDEX, () -> x.worth(2, 0, 0, 0, 2, false));
    }

    // ---- promise 11: hold ----

    @Says({"HOLD. IllegalStateException.", "is not above the WORTH."})
    static void p11_asMuchIsNoGain() {
        KeptWell x = game(3, 3, 0, 3, 3, 0, 0, 0);
        way(x, GOOD);
        due("both as much", x.hold(0, 0), true);
        x.bring(1, 0, 4, 0);
        due("person 0 one more", x.hold(0, 0), false);
        x.bring(1, 0, 3, 0);
        x.bring(0, 1, 0, 4);
        due("person 1 one more", x.hold(0, 0), false);
        x.bring(0, 1, 0, 2);
        due("less", x.hold(0, 0), true);
    }

    /** A grim one and a good one: person 1 gains by being bad once if P / Q is below 2 / 3. */
    private static KeptWell heldByTwoThirds() {
        KeptWell x = game(3, 3, 0, 5, 3, 2, 0, 1);
        ways(x, GRIM, GOOD);
        return x;
    }

    @Says({"what that brings to-day and P / Q of the WORTH then", "is not above the WORTH."})
    static void p11_asMuchAsAFractionIsNoGain() {
        KeptWell x = heldByTwoThirds();
        x.tomorrow(2, 3);
        due("as much", x.hold(0, 1), true);
        x.tomorrow(5, 8);
        due("a little less", x.hold(0, 1), false);
        x.tomorrow(5, 7);
        due("a little more", x.hold(0, 1), true);
    }

    @Says({"HOLD: in no MOODS", "(of all pairs of MOODS, also those that are never come to)"})
    static void p11_alsoInMoodsThatAreNeverComeTo() {
        KeptWell x = game(1, 0, 0, 0, 0, 0, 0, 0);
        ways(x, "does 0; does 1", "does 0");
        due("a MOOD that gains, never come to", x.hold(0, 1), false);
        due("FIRST", x.first(0, 1), 6);
        due("without it", x.hold(1, 1), true);
    }

    @Says("a person gains by doing another ACT once")
    static void p11_theThirdActToo() {
        KeptWell x = new KeptWell();
        way(x, GOOD);
        x.acts(3);
        x.bring(2, 0, 1, 0);
        due("ACT 2 of person 0", x.hold(0, 0), false);
        x.acts(2);
        due("with two ACTS it is none", x.hold(0, 0), true);
        x.acts(3);
        x.bring(2, 0, 0, 0);
        x.bring(0, 2, 0, 1);
        due("ACT 2 of person 1", x.hold(0, 0), false);
        x.bring(0, 2, 1, 0);
        due("what the other one gets is no gain", x.hold(0, 0), true);
    }

    @Says({"(the other one goes by what it sees; it goes by what it sees itself)", "and going on by its WAY then:"})
    static void p11_eachGoesByWhatItSees() {
        KeptWell x = twoAtTheWell();
        // person 0 bad once: 5, 0 and good again; by 2 / 3 this is 5 and 4, as much as 9
        x.tomorrow(2, 3);
        due("person 0 does not gain against a mirror, person 1 does", x.first(0, 2), 1);
        due("person 1 does not gain against a mirror, person 0 does", x.first(2, 0), 0);
        x.tomorrow(3, 5);
        due("person 0 gains by 3 / 5", x.first(0, 2), 0);
        x.tomorrow(5, 7);
        due("nor by 5 / 7", x.first(0, 2), 1);
    }

    @Says("IndexOutOfBoundsException: there is no such person, ACT, WAY,")
    static void p11_noSuchWay() {
        int[] none = {-1, 4, 8, FAR[0], FAR[1]};
        for (int n : none) {
            refusedAndNothingChanges("WAY " + n, INDEX, Checks::full, x -> x.hold(n, 0));
            refusedAndNothingChanges("the other WAY " + n, INDEX, Checks::full, x -> x.hold(0, n));
        }
    }

    @Says({"HOLD. IllegalStateException.", "IllegalStateException: a WAY is BARRED,"})
    static void p11_aBarredWayIsRefused() {
        refusedAndNothingChanges("BARRED", STATE, Checks::full, x -> x.hold(2, 0));
        refusedAndNothingChanges("the other one BARRED", STATE, Checks::full, x -> x.hold(0, 2));
        // against ACT 2 person 0 gets 12, 15 or 18, person 1 -18, -77 or -14
        due("with three ACTS", fullWithThreeActs().hold(2, 2), true);
    }

    @Says("Of several exceptions the one told first is thrown;")
    static void p11_noSuchWayComesAheadOfBarred() {
        KeptWell x = full();
        refused("BARRED and none", INDEX, () -> x.hold(2, 4));
        refused("none and BARRED", INDEX, () -> x.hold(-1, 2));
    }

    // ---- promise 12: first ----

    @Says("FIRST: 6 times the MOOD of person 0, 2 times that of person 1, and the person;")
    static void p12_eachOfTheEighteen() {
        for (int number = 0; number < 18; number++) {
            int a = number / 6;
            int b = number / 2 % 3;
            KeptWell x = threeThatStay();
            x.bring(a, b, number % 2 == 0 ? -1 : 0, number % 2 == 1 ? -1 : 0);
            due("FIRST", x.first(0, 0), number);
        }
    }

    @Says("NONE if they HOLD.")
    static void p12_noneIfTheyHold() {
        due("all bring nothing", threeThatStay().first(0, 0), -1);
        KeptWell x = heldByTwoThirds();
        due("by 1 / 2", x.first(0, 1), 1);
        x.tomorrow(2, 3);
        due("by 2 / 3", x.first(0, 1), -1);
    }

    @Says("FIRST: the first MOODS, by that of person 0, then of person 1,")
    static void p12_byTheMoodOfPerson0ThenOfPerson1() {
        KeptWell x = threeThatStay();
        x.bring(1, 0, -1, 0);
        x.bring(0, 2, 0, -1);
        due("MOODS 0 2 ahead of 1 0", x.first(0, 0), 5);
        KeptWell y = threeThatStay();
        y.bring(2, 2, -1, -1);
        y.bring(2, 1, 0, -1);
        due("MOODS 2 1 ahead of 2 2", y.first(0, 0), 15);
    }

    @Says("and of these the first person, who gains so.")
    static void p12_ofTheseTheFirstPerson() {
        KeptWell x = threeThatStay();
        x.bring(1, 1, -1, -1);
        due("both gain", x.first(0, 0), 8);
        x.bring(1, 1, 0, -1);
        due("person 1 alone", x.first(0, 0), 9);
    }

    @Says("IndexOutOfBoundsException: there is no such person, ACT, WAY,")
    static void p12_noSuchWay() {
        int[] none = {-1, 4, 8, FAR[0], FAR[1]};
        for (int n : none) {
            refusedAndNothingChanges("WAY " + n, INDEX, Checks::full, x -> x.first(n, 0));
            refusedAndNothingChanges("the other WAY " + n, INDEX, Checks::full, x -> x.first(0, n));
        }
    }

    @Says({"NONE if they HOLD. IllegalStateException.", "IllegalStateException: a WAY is BARRED,"})
    static void p12_aBarredWayIsRefused() {
        refusedAndNothingChanges("BARRED", STATE, Checks::full, x -> x.first(2, 0));
        refusedAndNothingChanges("the other one BARRED", STATE, Checks::full, x -> x.first(0, 2));
        // against ACT 2 person 0 gets 12, 15 or 18, person 1 -18, -77 or -14
        due("with three ACTS", fullWithThreeActs().first(2, 2), -1);
    }

    @Says("Of several exceptions the one told first is thrown;")
    static void p12_noSuchWayComesAheadOfBarred() {
        KeptWell x = full();
        refused("BARRED and none", INDEX, () -> x.first(2, 4));
        refused("none and BARRED", INDEX, () -> x.first(-1, 2));
    }

    // ---- promise 13: best ----

    @Says({"BEST ANSWER of a person to a WAY: the ACT in a MOOD of it.", "of several ACTS the least, MOOD by MOOD."})
    static void p13_ofSeveralTheLeast() {
        KeptWell x = threeThatStay();
        for (int person = 0; person < 2; person++) {
            for (int mood = 0; mood < 3; mood++) {
                due("all the same", x.best(person, 0, mood), 0);
            }
        }
        x.bring(1, 0, 1, 0);
        x.bring(2, 0, 1, 0);
        x.bring(2, 1, 1, 0);
        due("1 and 2", x.best(0, 0, 0), 1);
        due("2 alone", x.best(0, 0, 1), 2);
        due("all", x.best(0, 0, 2), 0);
        due("person 1 has nothing of it", x.best(1, 0, 0), 0);
    }

    @Says("of several ACTS the least, MOOD by MOOD.")
    static void p13_ofSeveralByWhatComesLaterTheLeast() {
        KeptWell x = twoAtTheWell();
        // against a grim one: 3 for ever, or 5 and then 1 for ever: 6 both
        due("in MOOD 0", x.best(0, 3, 0), 0);
        due("in MOOD 1", x.best(0, 3, 1), 1);
        x.tomorrow(4, 9);
        due("tomorrow counts less", x.best(0, 3, 0), 1);
    }

    @Says({"BEST ANSWER of person 0 or 1 to a WAY of the other one: for each MOOD of that WAY an ACT,",
        "such that nothing better could be had from any of its MOODS on;"})
    static void p13_nothingBetterFromAnyMood() {
        KeptWell x = twoAtTheWell();
        // against a mirror: bad and good by turns 20 / 3, better than 6
        due("in MOOD 0", x.best(1, 2, 0), 1);
        due("in MOOD 1", x.best(1, 2, 1), 0);
        x.tomorrow(1, 9);
        due("bad for ever, in MOOD 1", x.best(1, 2, 1), 1);
        x.tomorrow(3, 4);
        due("good for ever, in MOOD 0", x.best(1, 2, 0), 0);
        due("good for ever, in MOOD 1", x.best(1, 2, 1), 0);
    }

    @Says("of several ACTS the least, MOOD by MOOD.")
    static void p13_actTwoCountsAmongThreeAlone() {
        KeptWell x = threeThatStay();
        way(x, "does 0; does 1");
        x.bring(2, 0, 9, 0);
        x.bring(2, 1, 8, 0);
        due("of three", x.best(0, 1, 0), 2);
        due("of three, in MOOD 1", x.best(0, 1, 1), 2);
        x.acts(2);
        due("of two", x.best(0, 1, 0), 0);
        due("of two, in MOOD 1", x.best(0, 1, 1), 0);
        x.bring(1, 1, 1, 0);
        due("of two, in MOOD 1", x.best(0, 1, 1), 1);
    }

    @Says("BEST ANSWER of person 0 or 1 to a WAY of the other one:")
    static void p13_personOneAnswersAWayOfPersonZero() {
        KeptWell x = game(0, 0, 0, 7, 7, 0, 0, 0);
        ways(x, GOOD, BAD);
        due("person 0 to good", x.best(0, 0, 0), 1);
        due("person 1 to good", x.best(1, 0, 0), 1);
        x.bring(1, 0, -7, 0);
        due("person 0 to good", x.best(0, 0, 0), 0);
        due("person 1 to good", x.best(1, 0, 0), 1);
        due("person 1 to bad", x.best(1, 1, 0), 0);
    }

    @Says("IndexOutOfBoundsException: there is no such person, ACT, WAY, MOOD,")
    static void p13_noSuchPersonWayOrMood() {
        int[] none = {-1, 2, FAR[0], FAR[1]};
        for (int n : none) {
            refusedAndNothingChanges("person " + n, INDEX, Checks::full, x -> x.best(n, 0, 0));
            refusedAndNothingChanges("MOOD " + n, INDEX, Checks::full, x -> x.best(0, 1, n));
        }
        int[] noWay = {-1, 4, FAR[0], FAR[1]};
        for (int n : noWay) {
            refusedAndNothingChanges("WAY " + n, INDEX, Checks::full, x -> x.best(1, n, 0));
        }
        KeptWell x = full();
        refused("MOOD 3 of three", INDEX, () -> x.best(0, 3, 3));
        x.best(1, 3, 2);
    }

    @Says({"IllegalStateException.", "IllegalStateException: a WAY is BARRED,"})
    static void p13_aBarredWayIsRefused() {
        refusedAndNothingChanges("BARRED", STATE, Checks::full, x -> x.best(0, 2, 0));
        refusedAndNothingChanges("BARRED", STATE, Checks::full, x -> x.best(1, 2, 0));
        // to ACT 2: 12, 15 and 18
        due("with three ACTS", fullWithThreeActs().best(0, 2, 0), 2);
    }

    @Says("Of several exceptions the one told first is thrown;")
    static void p13_whatIsNotThereComesAheadOfBarred() {
        KeptWell x = full();
        refused("no MOOD of a BARRED WAY", INDEX, () -> x.best(0, 2, 1));
        refused("no person, BARRED", INDEX, () -> x.best(2, 2, 0));
    }

    // ---- promise 14: answer ----

    private static void dueAnswer(String what, KeptWell x, int person, int way, int mood, long up, long down) {
        dueFraction(what, x.answer(person, way, mood, false), x.answer(person, way, mood, true), up, down);
    }

    @Says({"What that is worth from this MOOD on.", "(All worths by it are told as FRACTIONS.)"})
    static void p14_fromThisMoodOn() {
        KeptWell x = twoAtTheWell();
        dueAnswer("to a good one", x, 0, 0, 0, 10, 1);
        dueAnswer("to a mirror", x, 0, 2, 0, 20, 3);
        dueAnswer("to a mirror in MOOD 1", x, 0, 2, 1, 10, 3);
        dueAnswer("to a grim one", x, 1, 3, 0, 6, 1);
        dueAnswer("to a grim one in MOOD 1", x, 1, 3, 1, 2, 1);
        x.tomorrow(1, 3);
        dueAnswer("by thirds: to a mirror, still by turns", x, 0, 2, 0, 45, 8);
    }

    @Says({"FRACTIONS are told as two numbers without a common part,", "the lower one above 0."})
    static void p14_nothingAndBelowZero() {
        KeptWell x = game(0, -3, 0, -4, 0, -3, 0, -4);
        way(x, GOOD);
        x.tomorrow(3, 9);
        dueAnswer("nothing", x, 0, 0, 0, 0, 1);
        dueAnswer("below 0", x, 1, 0, 0, -9, 2);
        x.bring(0, 0, 99, -99);
        x.bring(0, 1, 0, -99);
        x.tomorrow(8, 9);
        dueAnswer("the most", x, 0, 0, 0, 891, 1);
        dueAnswer("the least", x, 1, 0, 0, -891, 1);
    }

    @Says("nothing better could be had from any of its MOODS on;")
    static void p14_isNeverBelowTheWorthOfAWay() {
        KeptWell x = twoAtTheWell();
        way(x, "does 0, 0 to 1, 1 to 2; does 1, 0 to 2; does 0, 1 to 0");
        for (int other = 0; other < 4; other++) {
            long up = x.worth(other, 0, 4, 0, 0, false);
            long down = x.worth(other, 0, 4, 0, 0, true);
            due("WAY " + other, up * x.answer(0, 4, 0, true) <= x.answer(0, 4, 0, false) * down, true);
        }
        // good or bad in each MOOD: 3 or 5 into 1 or 2, 0 or 1 into 2 or 1, 3 or 5 into 2 or 0: bad, bad, bad is best
        dueAnswer("bad in MOODS 0 and 2 by turns", x, 0, 4, 0, 10, 1);
        // good in MOOD 1: 0 and a half of 10; bad: 1 and a half of itself
        dueAnswer("from MOOD 1 on", x, 0, 4, 1, 5, 1);
        due("in MOOD 1", x.best(0, 4, 1), 0);
    }

    @Says("What that is worth from this MOOD on.")
    static void p14_actTwoCountsAmongThreeAlone() {
        KeptWell x = threeThatStay();
        way(x, GOOD);
        x.bring(0, 0, -7, 0);
        x.bring(1, 0, -8, 0);
        x.bring(2, 0, 9, 0);
        dueAnswer("of three", x, 0, 1, 0, 18, 1);
        x.acts(2);
        dueAnswer("of two", x, 0, 1, 0, -14, 1);
        x.acts(3);
        dueAnswer("of three again", x, 0, 1, 0, 18, 1);
    }

    @Says("IndexOutOfBoundsException: there is no such person, ACT, WAY, MOOD,")
    static void p14_aWayThatIsNoMoreIsNone() {
        KeptWell x = twoAtTheWell();
        x.all(0, 0);
        refused("WAY 8", INDEX, () -> x.answer(0, 8, 0, false));
        x.image();
        way(x, GOOD);
        x.answer(0, 4, 0, false);
        x.back();
        refused("WAY 4 after back", INDEX, () -> x.answer(0, 4, 0, false));
    }

    @Says("IndexOutOfBoundsException: there is no such person, ACT, WAY, MOOD,")
    static void p14_noSuchPersonWayOrMood() {
        int[] none = {-1, 2, FAR[0], FAR[1]};
        for (int n : none) {
            refusedAndNothingChanges("person " + n, INDEX, Checks::full, x -> x.answer(n, 0, 0, true));
            refusedAndNothingChanges("MOOD " + n, INDEX, Checks::full, x -> x.answer(0, 1, n, false));
        }
        int[] noWay = {-1, 4, FAR[0], FAR[1]};
        for (int n : noWay) {
            refusedAndNothingChanges("WAY " + n, INDEX, Checks::full, x -> x.answer(1, n, 0, true));
        }
        KeptWell x = full();
        refused("MOOD 3 of three", INDEX, () -> x.answer(0, 3, 3, true));
        x.answer(1, 3, 2, true);
    }

    @Says({"What that is worth from this MOOD on. IllegalStateException.", "IllegalStateException: a WAY is BARRED,"})
    static void p14_aBarredWayIsRefused() {
        refusedAndNothingChanges("BARRED", STATE, Checks::full, x -> x.answer(0, 2, 0, false));
        refusedAndNothingChanges("BARRED", STATE, Checks::full, x -> x.answer(1, 2, 0, true));
        // 18 a day, by 3 / 5
        dueAnswer("with three ACTS", fullWithThreeActs(), 0, 2, 0, 45, 1);
    }

    @Says("Of several exceptions the one told first is thrown;")
    static void p14_whatIsNotThereComesAheadOfBarred() {
        KeptWell x = full();
        refused("no MOOD of a BARRED WAY", INDEX, () -> x.answer(0, 2, 1, false));
        refused("no person, BARRED", INDEX, () -> x.answer(2, 2, 0, false));
    }
}
