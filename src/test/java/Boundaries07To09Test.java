/** Promises 7 to 9, WAYS and their texts: each sentence of the document that names a boundary. */
public final class Boundaries07To09Test extends Checks {
    public static void main(String[] args) {
        run(Boundaries07To09Test.class);
    }

    /** A text is right: of each MOOD due are the ACT, and into which MOOD as 0, 1 and 2 was seen. */
    private static void reads(String text, int[]... moods) {
        KeptWell x = new KeptWell();
        put(x, text);
        due("'" + text + "'", x.way(), 0);
        due("fault of '" + text + "'", x.fault(), -1);
        due("MOODS of '" + text + "'", x.mood(0, 0, 0), moods.length);
        for (int mood = 0; mood < moods.length; mood++) {
            for (int i = 0; i < 4; i++) {
                due("MOOD " + mood + " of '" + text + "', " + (i + 2), x.mood(0, mood, i + 2), moods[mood][i]);
            }
        }
    }

    private static int[] mood(int act, int as0, int as1, int as2) {
        return new int[] {act, as0, as1, as2};
    }

    /** A text is wrong: due is its first wrong byte. */
    private static void wrongAt(int fault, String text) {
        KeptWell x = new KeptWell();
        put(x, text);
        refused("'" + text + "'", ARGUMENT, () -> x.way());
        due("fault of '" + text + "'", x.fault(), fault);
        due("WAYS after '" + text + "'", x.count(1), 0);
    }

    private static KeptWell withEightWays() {
        KeptWell x = twoAtTheWell();
        ways(x, GOOD, BAD, MIRROR, GRIM);
        return x;
    }

    // ---- promise 7: way ----

    @Says({"a WAY: its number.", "WAYS (at most 8, numbered from 0 on):"})
    static void p07_eightWaysAreNumberedFromZeroOn() {
        KeptWell x = new KeptWell();
        for (int i = 0; i < 8; i++) {
            due("WAY " + i, way(x, i % 2 == 0 ? GOOD : BAD), i);
            due("WAYS", x.count(1), i + 1);
        }
        for (int i = 0; i < 8; i++) {
            due("ACT of WAY " + i, x.mood(i, 0, 2), i % 2);
        }
    }

    @Says("UnsupportedOperationException: there are 8.")
    static void p07_aNinthWayIsRefused() {
        KeptWell x = withEightWays();
        put(x, "does 2");
        refused("a ninth WAY", UNSUPPORTED, () -> x.way());
        due("WAYS", x.count(1), 8);
        due("BARRED ones", x.count(2), 0);
        due("the eighth is as it was", x.mood(7, 0, 0), 2);
        due("the eighth is as it was", x.mood(7, 0, 4), 1);
        refused("there is no WAY 8", INDEX, () -> x.mood(8, 0, 0));
    }

    @Says("Of several exceptions the one told first is thrown;")
    static void p07_aWrongTextComesAheadOfEightWays() {
        KeptWell x = withEightWays();
        put(x, "does 0 1");
        refused("a wrong ninth text", ARGUMENT, () -> x.way());
        due("fault", x.fault(), 7);
        refused("no text at all", ARGUMENT, () -> x.way());
        due("fault", x.fault(), 0);
    }

    @Says({"Uses the TAPE up:", "but the TAPE, where it is used up,"})
    static void p07_theTapeIsUsedUpAlsoByATextThatIsRefused() {
        KeptWell x = withEightWays();
        put(x, GOOD);
        refused("a ninth WAY", UNSUPPORTED, () -> x.way());
        due("no tape after a ninth", tapeHas(x, 0), true);
        put(x, "does 3");
        refused("a wrong text", ARGUMENT, () -> x.way());
        due("no tape after a wrong one", tapeHas(x, 0), true);
        KeptWell y = new KeptWell();
        way(y, GOOD);
        due("no tape after a right one", tapeHas(y, 0), true);
        due("feed", y.feed(0, 0, 0, 0, 0), 20);
    }

    @Says({"a call that throws changes nothing", "IllegalArgumentException: the text is wrong;"})
    static void p07_aWrongTextChangesNothingElse() {
        KeptWell x = full();
        x.end(0);
        put(x, "does 0; does 1; does 2; does 0");
        refused("four MOODS", ARGUMENT, () -> x.way());
        KeptWell y = full();
        y.end(0);
        put(y, "                        2");
        refused("another text, wrong at the same byte", ARGUMENT, () -> y.way());
        dueText("after a wrong text", Looks.all(x), Looks.all(y));
        KeptWell z = full();
        z.end(0);
        put(z, "does 0; does 1, 1 to 2");
        refused("a NUMBER of no MOOD", ARGUMENT, () -> z.way());
        due("WAYS", z.count(1), 4);
        due("the next one", way(z, BAD), 4);
        due("has but one MOOD", z.mood(4, 0, 0), 1);
        due("which stays", z.mood(4, 0, 4), 0);
    }

    @Says({"texts: MOOD { ; MOOD }, at most 3;", "numbered from 0 on."})
    static void p07_oneToThreeMoods() {
        reads("does 1", mood(1, 0, 0, 0));
        reads("does 1;does 0", mood(1, 0, 0, 0), mood(0, 1, 1, 1));
        reads("does 2;does 1;does 0", mood(2, 0, 0, 0), mood(1, 1, 1, 1), mood(0, 2, 2, 2));
        reads("does 0,0 to 2;does 0,0 to 0;does 0,0 to 1", mood(0, 2, 0, 0), mood(0, 0, 1, 1), mood(0, 1, 2, 2));
        wrongAt(21, "does 1;does 1;does 1;does 1");
    }

    @Says({"MOOD: does ACT { , SEEN to NUMBER }:", "what is done in it,",
        "and into which MOOD one goes as the other one was seen to do an ACT;"})
    static void p07_ofSeenNoneOneOrMany() {
        reads("does 0", mood(0, 0, 0, 0));
        reads("does 0,1 to 1;does 0", mood(0, 0, 1, 0), mood(0, 1, 1, 1));
        reads("does 0,1 to 1,2 to 1,0 to 1;does 0", mood(0, 1, 1, 1), mood(0, 1, 1, 1));
    }

    @Says({"Uses the TAPE up:", "MOOD: does ACT { , SEEN to NUMBER }:"})
    static void p07_asManySeenAsTheTapeHasRoomFor() {
        // 6 and 77 times 5 and 9: 400 bytes
        reads("does 1" + ",2to0".repeat(77) + " , 1 to 0", mood(1, 0, 0, 0));
        reads("does 0" + ",1to1".repeat(77) + ";does  2 ", mood(0, 0, 1, 0), mood(2, 1, 1, 1));
    }

    @Says({"SEEN: an ACT, or any.", "ACT: 0 to 2;"})
    static void p07_seenIsAnActOrAny() {
        reads("does 0,0 to 1;does 1", mood(0, 1, 0, 0), mood(1, 1, 1, 1));
        reads("does 0,1 to 1;does 1", mood(0, 0, 1, 0), mood(1, 1, 1, 1));
        reads("does 0,2 to 1;does 1", mood(0, 0, 0, 1), mood(1, 1, 1, 1));
        reads("does 0,any to 1;does 1", mood(0, 1, 1, 1), mood(1, 1, 1, 1));
        wrongAt(7, "does 0,3 to 0");
    }

    @Says({"ACT: 0 to 2;", "(A WAY some MOOD of which does ACT 2 is BARRED as long as there are 2 ACTS.)"})
    static void p07_aWayThatDoesAct2IsToldAlsoWithTwoActs() {
        KeptWell x = new KeptWell();
        due("WAY", way(x, "does 2"), 0);
        due("ACT", x.mood(0, 0, 2), 2);
        due("BARRED ones", x.count(2), 1);
        wrongAt(5, "does 3");
    }

    @Says("NUMBER: of a MOOD, 0 to 2.")
    static void p07_numbersOfMoods() {
        reads("does 0,0 to 0,1 to 1,2 to 2;does 1;does 2", mood(0, 0, 1, 2), mood(1, 1, 1, 1), mood(2, 2, 2, 2));
        reads("does 0;does 1;does 2,0 to 2,1 to 0,2 to 1", mood(0, 0, 0, 0), mood(1, 1, 1, 1), mood(2, 2, 0, 1));
        wrongAt(12, "does 0,1 to 3;does 0;does 0");
    }

    @Says("Of several for one ACT seen the last one counts;")
    static void p07_ofSeveralForOneActSeenTheLastOneCounts() {
        reads("does 0,1 to 1,1 to 0;does 0", mood(0, 0, 0, 0), mood(0, 1, 1, 1));
        reads("does 0,1 to 0,1 to 1;does 0", mood(0, 0, 1, 0), mood(0, 1, 1, 1));
        reads("does 0,any to 1,1 to 0;does 0", mood(0, 1, 0, 1), mood(0, 1, 1, 1));
        reads("does 0,1 to 0,any to 1;does 0", mood(0, 1, 1, 1), mood(0, 1, 1, 1));
        reads("does 0,any to 1,any to 2,2 to 0;does 0;does 0", mood(0, 2, 2, 0), mood(0, 1, 1, 1), mood(0, 2, 2, 2));
    }

    @Says("without one the MOOD stays.")
    static void p07_withoutOneTheMoodStays() {
        reads("does 0;does 1,2 to 0;does 2", mood(0, 0, 0, 0), mood(1, 1, 1, 0), mood(2, 2, 2, 2));
    }

    @Says("One figure each.")
    static void p07_oneFigureEach() {
        wrongAt(5, "does 00");
        wrongAt(7, "does 0,01 to 0");
        wrongAt(12, "does 0,1 to 00");
        wrongAt(12, "does 0,1 to 0000000001");
    }

    @Says("Words are as long as a to z go on;")
    static void p07_wordsAreAsLongAsLettersGoOn() {
        reads("does0,any to1;does0", mood(0, 1, 1, 1), mood(0, 1, 1, 1));
        wrongAt(0, "doesz0");
        wrongAt(7, "does 0,anyto 0");
        wrongAt(9, "does 0,1 toa0");
        // what stands just ahead of a and just behind z in the row of signs
        wrongAt(4, "does`0");
        wrongAt(4, "does{0");
        wrongAt(10, "does 0,any`to 0");
        wrongAt(10, "does 0,any{to 0");
    }

    @Says("between all there may be blanks (32), also ahead and behind.")
    static void p07_blanksMayBeAnywhereOrNowhere() {
        reads("does0,1to1;does1,any to0", mood(0, 0, 1, 0), mood(1, 0, 0, 0));
        reads("  does  0  ,  1  to  1  ;  does  1  ,  any  to  0  ", mood(0, 0, 1, 0), mood(1, 0, 0, 0));
        reads("      does 0", mood(0, 0, 0, 0));
        reads("does 0      ", mood(0, 0, 0, 0));
        wrongAt(0, "do es 0");
        wrongAt(7, "does 0,a ny to 0");
        wrongAt(9, "does 0,1 t o 0");
        wrongAt(7, "does 1 0");
    }

    @Says("between all there may be blanks (32), also ahead and behind.")
    static void p07_otherSignsAreNoBlanks() {
        int[] none = {0, 9, 10, 13, 31, 33, 160, 255};
        for (int sign : none) {
            wrongAt(0, (char) sign + "does 0");
            wrongAt(4, "does" + (char) sign + "0");
            wrongAt(6, "does 0" + (char) sign);
        }
    }

    @Says("Uses the TAPE up:")
    static void p07_aTextOfFourHundredBytes() {
        reads(" ".repeat(394) + "does 1", mood(1, 0, 0, 0));
        reads("does 1" + " ".repeat(394), mood(1, 0, 0, 0));
        wrongAt(399, "does 1" + " ".repeat(393) + "1");
        wrongAt(400, " ".repeat(396) + "does");
        wrongAt(400, " ".repeat(400));
    }

    // ---- promise 8: fault ----

    @Says({"NONE without one,", "and ahead of any."})
    static void p08_noneAheadOfAnyAndWithoutOne() {
        KeptWell x = new KeptWell();
        due("ahead of any", x.fault(), -1);
        x.feed(0, 0, 0, 0, 0);
        due("unread", x.fault(), -1);
        x.end(0);
        way(x, GOOD);
        due("without one", x.fault(), -1);
    }

    @Says("The first wrong byte of the latest text that was read;")
    static void p08_ofTheLatestText() {
        KeptWell x = new KeptWell();
        put(x, "does 3");
        refused("a wrong text", ARGUMENT, () -> x.way());
        due("its fault", x.fault(), 5);
        due("the same", x.fault(), 5);
        put(x, "doe");
        due("not read yet", x.fault(), 5);
        refused("another wrong text", ARGUMENT, () -> x.way());
        due("its fault", x.fault(), 0);
        way(x, GOOD);
        due("a right text behind", x.fault(), -1);
    }

    @Says("and fault(), where a text is read (also by one that is refused)")
    static void p08_alsoOfATextThatIsRefused() {
        KeptWell x = withEightWays();
        put(x, "does");
        refused("a ninth, wrong", ARGUMENT, () -> x.way());
        due("its fault", x.fault(), 4);
        put(x, "does 0");
        refused("a ninth, right", UNSUPPORTED, () -> x.way());
        due("without one", x.fault(), -1);
    }

    @Says("The first wrong byte of the latest text that was read;")
    static void p08_aRowIsNoText() {
        KeptWell x = new KeptWell();
        put(x, "does 0,");
        refused("a wrong text", ARGUMENT, () -> x.way());
        row(x, 0, 0);
        due("after a ROW", x.fault(), 7);
        put(x, days(0, 3));
        refused("a wrong ROW", ARGUMENT, () -> x.row());
        due("after a wrong ROW", x.fault(), 7);
        way(x, GOOD);
        put(x, days(0, 3));
        refused("a wrong ROW", ARGUMENT, () -> x.row());
        due("after a right text and a wrong ROW", x.fault(), -1);
    }

    @Says({"The first wrong byte: the begin of the first thing that cannot stand there", "(a number that is none,"})
    static void p08_aNumberThatIsNone() {
        wrongAt(5, "does 3");
        wrongAt(5, "does 9 9");
        wrongAt(7, "does 0,3 to 0");
        wrongAt(12, "does 0,1 to 3");
        wrongAt(12, "does 0,1 to 9;x");
        wrongAt(6, "does  3");
        wrongAt(5, "does -1");
        wrongAt(5, "does +1");
    }

    @Says("or of more figures;")
    static void p08_aNumberOfMoreFigures() {
        wrongAt(5, "does 10");
        wrongAt(5, "does 09");
        wrongAt(5, "does 90");
        wrongAt(5, "does 00 x");
        wrongAt(7, "does 0,00 to 0");
        wrongAt(7, "does 0,12 to 0");
        wrongAt(12, "does 0,1 to 01");
        wrongAt(5, "does 0" + "0".repeat(394));
        // what stands just ahead of 0 and just behind 9 is no figure
        wrongAt(6, "does 0/");
        wrongAt(6, "does 0:");
    }

    @Says("a word that is none;")
    static void p08_aWordThatIsNone() {
        wrongAt(0, "do 0");
        wrongAt(0, "doe 0");
        wrongAt(0, "doess 0");
        wrongAt(0, "goes 0");
        wrongAt(0, "dogs 0");
        wrongAt(0, "doet 0");
        wrongAt(0, "any 0");
        wrongAt(0, "to 0");
        wrongAt(0, "Does 0");
        wrongAt(0, "doeS 0");
        wrongAt(7, "does 0,an to 0");
        wrongAt(7, "does 0,bny to 0");
        wrongAt(7, "does 0,amy to 0");
        wrongAt(7, "does 0,anz to 0");
        wrongAt(9, "does 0,1 so 0");
        wrongAt(9, "does 0,1 tp 0");
        wrongAt(7, "does 0,anyy to 0");
        wrongAt(7, "does 0,does to 0");
        wrongAt(7, "does 0,to 0");
        wrongAt(9, "does 0,1 t 0");
        wrongAt(9, "does 0,1 too 0");
        wrongAt(9, "does 0,1 any 0");
        wrongAt(11, "does 0,any any to 0");
        wrongAt(5, "does any");
        wrongAt(12, "does 0,1 to any");
    }

    @Says("the begin of the first thing that cannot stand there")
    static void p08_aThingThatCannotStandThere() {
        wrongAt(0, "0");
        wrongAt(0, ";does 0");
        wrongAt(0, ",does 0");
        wrongAt(2, "  ;");
        wrongAt(4, "does,1 to 0");
        wrongAt(5, "does ;does 0");
        wrongAt(7, "does 0 does 1");
        wrongAt(7, "does 0 to 1");
        wrongAt(6, "does 0.");
        wrongAt(8, "does 0  1 to 0");
        wrongAt(7, "does 0,,1 to 0");
        wrongAt(7, "does 0,;does 0");
        wrongAt(8, "does 0,1,1 to 0");
        wrongAt(9, "does 0,1 0");
        wrongAt(11, "does 0,1 to;");
        wrongAt(14, "does 0,1 to 0 1 to 0");
        wrongAt(14, "does 0,1 to 0 to 0");
        wrongAt(7, "does 0;;does 0");
        wrongAt(8, "does 0; 1 to 0");
        wrongAt(6, "does 0\0");
        wrongAt(6, "does 0\u00e9");
    }

    @Says("the begin of the first thing that cannot stand there")
    static void p08_ofSeveralWrongThingsTheFirst() {
        wrongAt(5, "does 3,4 to 5");
        wrongAt(7, "does 0,4 too 5");
        wrongAt(0, "doe 3");
        wrongAt(12, "does 0;does 7;does 8");
    }

    @Says("of a 4th MOOD its first word)")
    static void p08_ofAFourthMoodItsFirstWord() {
        wrongAt(21, "does 0;does 0;does 0;does 0");
        wrongAt(24, "does 0;does 0;does 0;   does 0");
        wrongAt(22, "does 0;does 0;does 0 ;does 0;does 0");
        wrongAt(21, "does 0;does 0;does 0;does");
        wrongAt(21, "does 0;does 0;does 0;x");
        wrongAt(22, "does 0;does 0;does 0; 1");
        wrongAt(21, "does 0;does 0;does 0;;");
        wrongAt(28, "does 0,1 to 2;does 0;does 0;does 0");
    }

    @Says("or the text's length, if more must come;")
    static void p08_theTextsLengthIfMoreMustCome() {
        String[] cut = {"", " ", "     ", "does", "does  ", "does 0,", "does 0, ", "does 0,1", "does 0,any", "does 0,any  ",
            "does 0,1 to", "does 0,1 to   ", "does 0;", "does 0; ", "does 0;does", "does 0;does 0;", "does 0;does 0;does 0;",
            "does 0;does 0;does 0;  ", "does 0,1 to 2,"};
        for (String text : cut) {
            wrongAt(text.length(), text);
        }
    }

    @Says("without one the begin of the first NUMBER that names no MOOD of this WAY.")
    static void p08_theFirstNumberThatNamesNoMood() {
        wrongAt(12, "does 0,1 to 1");
        wrongAt(12, "does 0,1 to 2;does 0");
        wrongAt(20, "does 0,0 to 0,1 to  2,2 to 1");
        wrongAt(21, "does 0,any to 0,0 to 2;does 1,any to 2");
        wrongAt(12, "does 0,0 to 1,1 to 2");
        wrongAt(12, "does 0,0 to 2,1 to 1");
        wrongAt(19, "does 0,1 to 0,1 to 1");
        wrongAt(26, "does 0,1 to 1;does 1,1 to 2");
    }

    @Says("names no MOOD of this WAY.")
    static void p08_aNumberMayNameAMoodThatComesBehind() {
        reads("does 0,1 to 1;does 1", mood(0, 0, 1, 0), mood(1, 1, 1, 1));
        reads("does 0,1 to 2;does 1;does 0", mood(0, 0, 2, 0), mood(1, 1, 1, 1), mood(0, 2, 2, 2));
    }

    @Says("without one the begin of the first NUMBER that names no MOOD of this WAY.")
    static void p08_alsoOneThatDoesNotCountIsWrong() {
        wrongAt(12, "does 0,1 to 1,1 to 0");
        wrongAt(14, "does 0,any to 2,any to 0");
    }

    @Says("without one the begin of the first NUMBER")
    static void p08_aThingThatCannotStandComesAheadOfANumberOfNoMood() {
        wrongAt(19, "does 0,1 to 2;does 9");
        wrongAt(14, "does 0,1 to 2,");
        wrongAt(13, "does 0,1 to 1.");
        wrongAt(28, "does 0,1 to 2;does 0;does 0;does 0");
    }

    // ---- promise 9: mood ----

    private static KeptWell withMoods() {
        KeptWell x = new KeptWell();
        ways(x, "does 0", "does 2, 1 to 1; does 1, any to 0", "does 1, 0 to 2, 2 to 1; does 0; does 0, any to 0, 1 to 1");
        return x;
    }

    @Says("Of a WAY what 0 its MOODS,")
    static void p09_howManyMoods() {
        KeptWell x = withMoods();
        for (int way = 0; way < 3; way++) {
            due("MOODS of WAY " + way, x.mood(way, 0, 0), way + 1);
        }
    }

    @Says({"1 1 if it is BARRED;", "(A WAY some MOOD of which does ACT 2 is BARRED as long as there are 2 ACTS.)"})
    static void p09_barredAsLongAsThereAreTwoActs() {
        KeptWell x = new KeptWell();
        ways(x, "does 2", "does 0; does 2", "does 1; does 1; does 2", "does 0, 2 to 1; does 1, any to 0");
        int[] barred = {1, 1, 1, 0};
        for (int way = 0; way < 4; way++) {
            due("WAY " + way + " with two ACTS", x.mood(way, 0, 1), barred[way]);
        }
        x.acts(3);
        for (int way = 0; way < 4; way++) {
            due("WAY " + way + " with three ACTS", x.mood(way, 0, 1), 0);
        }
        x.acts(2);
        for (int way = 0; way < 4; way++) {
            due("WAY " + way + " with two ACTS again", x.mood(way, 0, 1), barred[way]);
        }
    }

    @Says({"of a MOOD of it 2 the ACT,", "3 to 5 into which MOOD as ACT 0 to 2 was seen."})
    static void p09_ofAMood() {
        KeptWell x = withMoods();
        int[][] last = {mood(1, 2, 0, 1), mood(0, 1, 1, 1), mood(0, 0, 1, 0)};
        for (int mood = 0; mood < 3; mood++) {
            for (int i = 0; i < 4; i++) {
                due("MOOD " + mood + ", " + (i + 2), x.mood(2, mood, i + 2), last[mood][i]);
            }
        }
        due("the ACT of one that is BARRED", x.mood(1, 0, 2), 2);
        due("as ACT 2 was seen, with two ACTS", x.mood(1, 1, 5), 0);
    }

    @Says("(mood counts for 2 to 5 alone.)")
    static void p09_moodCountsForTwoToFiveAlone() {
        int[] none = {-1, 2, 3, FAR[0], FAR[1]};
        KeptWell x = withMoods();
        for (int mood : none) {
            due("what 0", x.mood(1, mood, 0), 2);
            due("what 1", x.mood(1, mood, 1), 1);
            refused("what 6", SUCH, () -> x.mood(1, mood, 6));
            for (int what = 2; what <= 5; what++) {
                int asked = what;
                refused("what " + what + " of MOOD " + mood, INDEX, () -> x.mood(1, mood, asked));
            }
        }
    }

    @Says("IndexOutOfBoundsException: there is no such person, ACT, WAY, MOOD,")
    static void p09_noSuchWayOrMood() {
        int[] ways = {-1, 4, 8, FAR[0], FAR[1]};
        for (int way : ways) {
            for (int what = 0; what <= 5; what++) {
                int asked = what;
                refusedAndNothingChanges("WAY " + way, INDEX, Checks::full, x -> x.mood(way, 0, asked));
            }
        }
        // the WAYS of a full object have 1, 2, 1 and 3 MOODS
        int[] moods = {1, 2, 1, 3};
        KeptWell x = full();
        for (int way = 0; way < 4; way++) {
            int asked = way;
            x.mood(way, moods[way] - 1, 2);
            refused("MOOD " + moods[way], INDEX, () -> x.mood(asked, moods[asked], 2));
            refused("MOOD -1", INDEX, () -> x.mood(asked, -1, 5));
        }
        refusedAndNothingChanges("no MOOD", INDEX, Checks::full, y -> y.mood(1, 2, 2));
    }

    @Says("NoSuchElementException: another what.")
    static void p09_anotherWhatIsRefused() {
        int[] none = {-1, 6, 7, FAR[0], FAR[1]};
        for (int what : none) {
            refusedAndNothingChanges("what " + what, SUCH, Checks::full, x -> x.mood(1, 0, what));
        }
    }

    @Says("Of several exceptions the one told first is thrown;")
    static void p09_noSuchWayComesAheadOfAnotherWhat() {
        KeptWell x = withMoods();
        refused("no WAY, another what", INDEX, () -> x.mood(3, 0, 6));
        refused("no WAY, another what", INDEX, () -> x.mood(-1, 0, -1));
    }
}
