/** Promises 37 to 42, the VILLAGE, THE IMAGE and what is counted: each sentence that names a boundary. */
public final class Boundaries37To42Test extends Checks {
    public static void main(String[] args) {
        run(Boundaries37To42Test.class);
    }

    /** A VILLAGE: COST and GAIN of each. */
    private static KeptWell village(int... costsAndGains) {
        KeptWell x = new KeptWell();
        for (int i = 0; i < costsAndGains.length; i += 2) {
            x.villager(costsAndGains[i], costsAndGains[i + 1]);
        }
        return x;
    }

    private static void dueEdge(String what, KeptWell x, int who, int up, int down) {
        due(what + ", above", x.villageEdge(who, false), up);
        due(what + ", below", x.villageEdge(who, true), down);
    }

    // ---- promise 37: villager ----

    @Says({"One more in the VILLAGE: its number.", "A VILLAGE of at most 6 (numbered from 0 on):"})
    static void p37_sixAreNumberedFromZeroOn() {
        KeptWell x = new KeptWell();
        for (int i = 0; i < 6; i++) {
            due("villager " + i, x.villager(10, 10), i);
            due("in the VILLAGE", x.count(10), i + 1);
        }
    }

    @Says("UnsupportedOperationException: there are 6.")
    static void p37_aSeventhIsRefused() {
        refusedAndNothingChanges("a seventh", UNSUPPORTED, Boundaries37To42Test::fullOfVillagers, x -> x.villager(0, 1));
        KeptWell x = fullOfVillagers();
        refused("a seventh", UNSUPPORTED, () -> x.villager(999, 99));
        due("in the VILLAGE", x.count(10), 6);
        refused("there is no seventh", INDEX, () -> x.villageEdge(6, false));
    }

    private static KeptWell fullOfVillagers() {
        KeptWell x = full();
        for (int i = 0; i < 4; i++) {
            x.villager(20 + i, 10);
        }
        return x;
    }

    @Says({"COST (0 to 999) of helping on a day, GAIN (1 to 99) by each one who helps.", "IllegalArgumentException: a number is none;"})
    static void p37_theLeastAndTheGreatestNumbers() {
        KeptWell x = village(0, 1, 0, 99, 999, 1, 999, 99);
        due("in the VILLAGE", x.count(10), 4);
        int[] noCost = {-1, 1000, FAR[0], FAR[1]};
        for (int cost : noCost) {
            refusedAndNothingChanges("COST " + cost, ARGUMENT, Checks::full, y -> y.villager(cost, 5));
        }
        int[] noGain = {0, -1, 100, FAR[0], FAR[1]};
        for (int gain : noGain) {
            refusedAndNothingChanges("GAIN " + gain, ARGUMENT, Checks::full, y -> y.villager(5, gain));
        }
    }

    @Says("Of several exceptions the one told first is thrown;")
    static void p37_aNumberThatIsNoneComesAheadOfSix() {
        KeptWell x = fullOfVillagers();
        refused("COST of a seventh", ARGUMENT, () -> x.villager(1000, 1));
        refused("GAIN of a seventh", ARGUMENT, () -> x.villager(1, 0));
    }

    // ---- promise 38: villageEdge ----

    @Says({"EDGE of one, above or below.", "with n in the VILLAGE: (COST - GAIN) / ((n - 1) GAIN),",
        "Each has an EDGE: the least FRACTION that tomorrow must count, so that it does not leave it to the others:"})
    static void p38_withTwoToSixInTheVillage() {
        KeptWell x = village(19, 10, 10, 10);
        dueEdge("9 / 10", x, 0, 9, 10);
        int[][] due = {{9, 20}, {3, 10}, {9, 40}, {9, 50}};
        for (int i = 0; i < 4; i++) {
            x.villager(5, 5);
            dueEdge(i + 3 + " in the VILLAGE", x, 0, due[i][0], due[i][1]);
        }
        // 494 of 5 times 99
        KeptWell y = village(593, 99, 1, 1, 1, 1, 1, 1, 1, 1, 999, 99);
        dueEdge("the longest", y, 0, 494, 495);
        dueEdge("1 or more", y, 5, 1, 1);
    }

    @Says("0 if that is below 0;")
    static void p38_zeroIfItIsBelowZero() {
        KeptWell x = village(9, 10, 10, 10, 11, 10, 0, 99);
        dueEdge("below 0", x, 0, 0, 1);
        dueEdge("nothing", x, 1, 0, 1);
        dueEdge("a little", x, 2, 1, 30);
        dueEdge("far below", x, 3, 0, 1);
    }

    @Says("1 / 1 for one alone whose COST is above GAIN,")
    static void p38_oneAlone() {
        dueEdge("COST above GAIN", village(11, 10), 0, 1, 1);
        dueEdge("COST far above GAIN", village(999, 1), 0, 1, 1);
        dueEdge("COST is GAIN", village(10, 10), 0, 0, 1);
        dueEdge("COST below GAIN", village(9, 10), 0, 0, 1);
        dueEdge("no COST", village(0, 1), 0, 0, 1);
    }

    @Says("or if that is 1 or more (never).")
    static void p38_oneOrMoreIsNever() {
        KeptWell x = village(30, 10, 29, 10, 31, 10);
        dueEdge("just 1", x, 0, 1, 1);
        dueEdge("a little below", x, 1, 19, 20);
        dueEdge("above 1", x, 2, 1, 1);
        dueEdge("just 1 of two", village(2, 1, 0, 1), 0, 1, 1);
        dueEdge("just 1 of six", village(594, 99, 1, 1, 1, 1, 1, 1, 1, 1, 1, 1), 0, 1, 1);
    }

    @Says({"IndexOutOfBoundsException: there is no such person, ACT, WAY, MOOD, one in the VILLAGE."})
    static void p38_noSuchOne() {
        int[] none = {-1, 2, 6, FAR[0], FAR[1]};
        for (int n : none) {
            refusedAndNothingChanges("one " + n, INDEX, Checks::full, x -> x.villageEdge(n, false));
            refusedAndNothingChanges("one " + n, INDEX, Checks::full, x -> x.villageEdge(n, true));
        }
        full().villageEdge(1, true);
    }

    // ---- promise 39: village ----

    @Says({"What 0 WEAK (NONE without any),", "WEAK: the one with the greatest EDGE, of several the least number."})
    static void p39_weak() {
        due("without any", new KeptWell().village(0), -1);
        due("one alone", village(0, 1).village(0), 0);
        due("all 0", village(1, 1, 1, 1, 0, 9).village(0), 0);
        due("the greatest last", village(11, 10, 12, 10, 13, 10).village(0), 2);
        due("of several the least", village(11, 10, 13, 10, 13, 10).village(0), 1);
        due("as much, told otherwise", village(11, 10, 12, 8, 24, 16).village(0), 1);
        due("of several that are never", village(0, 1, 50, 10, 99, 1).village(0), 1);
        due("near 1 and 1", village(39, 20, 40, 20).village(0), 1);
        due("a sixth", village(1, 1, 1, 1, 1, 1, 1, 1, 1, 1, 2, 1).village(0), 5);
    }

    @Says({"1 1 if it is HELD,", "HELD: whether P / Q is not below any EDGE (and no EDGE is 1)."})
    static void p39_held() {
        due("nobody", new KeptWell().village(1), 1);
        KeptWell x = village(15, 10, 10, 10);
        due("1 / 2 is not below 1 / 2", x.village(1), 1);
        x.tomorrow(4, 9);
        due("4 / 9 is", x.village(1), 0);
        x.tomorrow(5, 9);
        due("5 / 9 is not", x.village(1), 1);
        x.villager(21, 10);
        // now 5 / 20, 0 and 11 / 20
        due("5 / 9 is not below 11 / 20", x.village(1), 1);
        x.tomorrow(1, 2);
        due("1 / 2 is", x.village(1), 0);
        x.tomorrow(8, 9);
        due("8 / 9 is not", x.village(1), 1);
        x.villager(40, 10);
        due("an EDGE of 1", x.village(1), 0);
        due("one alone, never", village(2, 1).village(1), 0);
        due("one alone, at once", village(1, 1).village(1), 1);
        KeptWell last = village(1, 1, 1, 1, 7, 1);
        last.tomorrow(8, 9);
        due("an EDGE of 1 of the last", last.village(1), 0);
    }

    @Says({"All help, as long as all did; else nobody ever again.", "HELD: whether P / Q is not below any EDGE"})
    static void p39_heldByAsMuchAsThereMustBe() {
        for (int q = 2; q <= 9; q++) {
            for (int p = 1; p < q; p++) {
                // a COST of Q and P more by a GAIN of Q, in a VILLAGE of two
                KeptWell x = village(q + p, q, 0, 1);
                x.tomorrow(p, q);
                due(p + " / " + q, x.village(1), 1);
                KeptWell y = village(10 * (q + p) + 1, 10 * q, 0, 1);
                y.tomorrow(p, q);
                due("a little more than " + p + " / " + q, y.village(1), 0);
            }
        }
    }

    @Says({"2 FEW as bits.", "FEW: of several who stay out from the beginning (a VILLAGE of the others alone):",
        "the fewest, then the least bits, without whom the others are HELD"})
    static void p39_few() {
        due("nobody need stay out", village(15, 10, 15, 10).village(2), 0);
        due("the weak one", village(10, 10, 40, 10, 14, 10).village(2), 2);
        // without the last one the others' EDGES are 8 / 10 in place of 8 / 20
        due("the last one, and then the others too", village(18, 10, 18, 10, 99, 10).village(2), 7);
        due("the last one and one more", village(18, 10, 9, 10, 99, 10).village(2), 5);
        due("two of six", village(99, 9, 9, 9, 9, 9, 9, 9, 9, 9, 99, 9).village(2), 33);
        due("one of six", village(9, 9, 9, 9, 9, 9, 9, 9, 9, 9, 99, 9).village(2), 32);
        // two sets of the same number never do: who stays in either would be HELD with those of both
        KeptWell x = village(18, 10, 18, 10, 99, 10);
        x.tomorrow(8, 9);
        due("tomorrow counts more", x.village(2), 4);
    }

    @Says("(nobody left: HELD).")
    static void p39_fewMayBeAll() {
        due("nobody at all", new KeptWell().village(2), 0);
        due("one alone", village(2, 1).village(2), 1);
        due("two", village(50, 1, 50, 1).village(2), 3);
        due("six", village(99, 9, 99, 9, 99, 9, 99, 9, 99, 9, 99, 9).village(2), 63);
        due("six, and one who gains alone", village(99, 9, 99, 9, 99, 9, 9, 9, 99, 9, 99, 9).village(2), 55);
    }

    @Says("NoSuchElementException: another what.")
    static void p39_anotherWhat() {
        int[] none = {-1, 3, FAR[0], FAR[1]};
        for (int what : none) {
            refusedAndNothingChanges("what " + what, SUCH, Checks::full, x -> x.village(what));
        }
        refused("without any", SUCH, () -> new KeptWell().village(3));
    }

    // ---- promises 40 and 41: the image ----

    /** Changes one thing of a full object that is told by a number from 0 to 11. */
    private static void change(KeptWell x, int what) {
        x.end(0);
        switch (what) {
            case 0:
                x.acts(3);
                break;
            case 1:
                x.bring(1, 1, 31, -32);
                break;
            case 2:
                x.tomorrow(1, 9);
                break;
            case 3:
                way(x, "does 1; does 0, any to 0");
                break;
            case 4:
                x.mistakes(2, 7);
                break;
            case 5:
                row(x, 0, 0, 0, 0);
                break;
            case 6:
                x.field(3, 77);
                break;
            case 7:
                x.rounds(29);
                break;
            case 8:
                x.villager(88, 44);
                break;
            case 9:
                x.acts(3);
                x.bring(2, 2, -33, 34);
                x.acts(2);
                break;
            case 10:
                row(x);
                break;
            default:
                x.grow(3);
                break;
        }
        x.end(0);
    }

    @Says({"THE IMAGE (one) of all may be kept, and gone back to", "One goes back to THE IMAGE: true;"})
    static void p41_allIsAsItWas() {
        String due = afterEmptyTape(full());
        for (int what = 0; what < 12; what++) {
            KeptWell x = full();
            x.image();
            change(x, what);
            due("back", x.back(), true);
            // the look itself goes back to the image then: so to what it sees first
            dueText("after change " + what, half(afterEmptyTape(x)), half(due));
            KeptWell y = full();
            change(y, what);
            due("change " + what + " can be seen", half(afterEmptyTape(y)).equals(half(due)), false);
        }
    }

    private static String afterEmptyTape(KeptWell x) {
        x.end(0);
        return Looks.all(x);
    }

    /** Of a look what is kept by THE IMAGE: behind fault(), and ahead of its going back. */
    private static String half(String look) {
        return look.substring(look.indexOf("; counts"), look.indexOf("; back "));
    }

    @Says("THE IMAGE is kept.")
    static void p40_theImageDoesNotGoWithWhatComesBehind() {
        for (int what = 0; what < 12; what++) {
            KeptWell x = full();
            x.image();
            x.back();
            change(x, what);
            x.back();
            dueText("changed behind back " + what, half(afterEmptyTape(x)), half(afterEmptyTape(full())));
        }
    }

    @Says("THE IMAGE (one) of all")
    static void p40_thereIsOneImage() {
        KeptWell x = new KeptWell();
        x.rounds(3);
        x.image();
        x.rounds(4);
        x.image();
        x.rounds(5);
        due("back", x.back(), true);
        due("the latest", x.count(9), 4);
        due("back once more", x.back(), true);
        due("the same", x.count(9), 4);
        x.rounds(6);
        x.image();
        x.rounds(7);
        x.back();
        due("kept behind back", x.count(9), 6);
    }

    @Says("false, and nothing happens, if none was kept.")
    static void p41_nothingHappensIfNoneWasKept() {
        due("a new object", new KeptWell().back(), false);
        KeptWell x = twoAtTheWell();
        x.rounds(3);
        put(x, GOOD);
        due("back", x.back(), false);
        due("ROUNDS", x.count(9), 3);
        due("the tape", x.way(), 4);
        due("WAYS", x.count(1), 5);
        due("back", x.back(), false);
        due("WAYS", x.count(1), 5);
    }

    @Says("(but for the TAPE, fault() and THE IMAGE itself).")
    static void p41_theTapeAndTheFaultStay() {
        KeptWell x = new KeptWell();
        put(x, "does 1;doe");
        x.image();
        due("the tape stays by image", tapeHas(x, 10), true);
        refused("a wrong text", ARGUMENT, () -> x.way());
        put(x, "does 0");
        x.back();
        due("fault stays", x.fault(), 7);
        due("the tape stays", x.way(), 0);
        due("fault of it", x.fault(), -1);
        x.image();
        put(x, "x");
        refused("a wrong text", ARGUMENT, () -> x.way());
        x.back();
        due("fault stays", x.fault(), 0);
        due("the tape used up stays so", tapeHas(x, 0), true);
        due("THE IMAGE stays", x.back(), true);
    }

    @Says("THE IMAGE (one) of all may be kept,")
    static void p41_anImageOfANewObject() {
        KeptWell x = new KeptWell();
        x.image();
        ways(x, GOOD, BAD);
        x.field(0, 5);
        x.villager(1, 1);
        x.acts(3);
        x.back();
        int[] counts = {2, 0, 0, 1, 2, 0, x.count(6), 0, 0, 10, 0, 1};
        for (int what = 0; what < counts.length; what++) {
            due("count " + what, x.count(what), counts[what]);
        }
        due("the next WAY", way(x, BAD), 0);
        due("has no beings", x.beings(0), 0);
        due("the next in the VILLAGE", x.villager(5, 5), 0);
    }

    // ---- promise 42: count ----

    @Says("0 ACTS, 1 WAYS, 2 BARRED ones, 3 P, 4 Q, 5 E, 6 F, 7 days of the ROW, 8 beings in all, 9 ROUNDS, 10 in the VILLAGE, 11 CORNERS.")
    static void p42_whatIsCounted() {
        KeptWell x = full();
        // with two ACTS: -44 55, 11 -28, 13 -24, 14 -22
        int[] two = {2, 4, 1, 3, 5, 1, 4, 2, 26, 7, 2, 3};
        for (int what = 0; what < 12; what++) {
            due("count " + what, x.count(what), two[what]);
        }
        x.acts(3);
        due("three ACTS", x.count(0), 3);
        due("none is BARRED", x.count(2), 0);
        x.tomorrow(4, 8);
        due("P as it was told", x.count(3), 4);
        due("Q as it was told", x.count(4), 8);
        x.mistakes(2, 6);
        due("E as it was told", x.count(5), 2);
        due("F as it was told", x.count(6), 6);
    }

    @Says({"2 BARRED ones,", "8 beings in all,"})
    static void p42_manyBarredOnesAndTheirBeings() {
        KeptWell x = new KeptWell();
        for (int i = 0; i < 8; i++) {
            way(x, "does " + (i % 3 == 0 ? 0 : 2) + "; does 1");
            x.field(i, 1000);
        }
        due("BARRED ones", x.count(2), 5);
        due("beings in all", x.count(8), 8000);
        x.acts(3);
        due("BARRED ones", x.count(2), 0);
    }

    @Says("NONE for another what.")
    static void p42_noneForAnotherWhat() {
        int[] none = {-1, 12, 13, FAR[0], FAR[1]};
        for (int what : none) {
            due("count " + what, full().count(what), -1);
        }
    }

    @Says("a call that throws changes nothing")
    static void p42_whatIsAskedChangesNothing() {
        KeptWell x = full();
        for (int i = 0; i < 4; i++) {
            x.all(1, i);
            x.drawn(0, 1, 100, i, i);
            x.in(0, 0, 1, i % 2 == 0);
            x.corner(i, true);
        }
        x.together();
        x.edge(1, 3, 12);
        x.doubt(0, 1, 0, true, true);
        x.best(0, 3, 2);
        x.answer(1, 3, 2, true);
        x.lots(0, true);
        x.mild(0, 1, 1, 0);
        x.begin(3, 1);
        x.stays(3);
        x.meet(1, 3);
        x.grow(0);
        x.once();
        x.village(2);
        x.hold(0, 1);
        x.first(3, 3);
        x.worth(3, 2, 1, 1, 0, true);
        dueText("after all that is asked", Looks.all(x), Looks.all(full()));
    }
}
