/** The boundary cases of what wells have said, and of what is said of them: promises 15 to 26 and 52. */
public final class BoundaryDiaryTest {
    private static final String ASKED = "ASKED, a WELL answers by the STATE that IS, once a DAY; DIARY: what it said, in order (60 at "
            + "most).";
    private static final String ASK = "ASKED: what it says; -1: it was asked on that DAY (by the DIARY); else -2: the DIARY is full "
            + "(nothing is done).";
    private static final String LEFT = "LEFT are STATES (of all) by which each answer in the DIARY would be just so.";
    private static final String KNOWN = "KNOWN is the GOAL on a DAY, if it is so in all STATES that are LEFT, or in none.";
    private static final String KNOWN_HOW = "The GOAL on a DAY: 1 so in all STATES LEFT, 0 in none, 2 in some; NONE: none is LEFT.";
    private static final String TEXTLESS = "(Without a text a QUESTION, the GOAL are never so.)";
    private static final String VEIN = "Of a VEIN: 0, 1 which one lies by all STATES that are LEFT, 2 it may be either; NONE: none is "
            + "LEFT.";
    private static final String DIARY = "Of the i-th answer in the DIARY (from 0 on): 0 WELL, 1 DAY, 2 what it said, 3 how many STATES "
            + "were LEFT behind it; NONE: none such.";
    private static final String TEAR = "All answers from the i-th on (all, if i is below 0) go: how many (it may be asked anew).";
    private static final String WEIGHTIEST = "Which answer of the DIARY, taken out alone, would leave most STATES LEFT, of these the "
            + "first; NONE: there is none.";
    private static final String HEARSAY = "HEARSAY (10 at most): somebody tells that a WELL said so much to a QUESTION on a DAY.";
    private static final String HEAR = "HEARSAY: how many there are; -1: there are 10.";
    private static final String FALSE = "FALSE ones: the fewest (of alike ones the least bits) that are to be struck out, so that some "
            + "STATE that is LEFT makes all others so.";
    private static final String FALSE_HOW = "FALSE ones: 0 how many, 1 the bits; NONE: none is LEFT.";
    private static final String TRUSTED = "STATES that are LEFT and make all but the FALSE ones so, as bits.";
    private static final String DEAF = "All HEARSAY goes: how many.";
    private static final String SHORT = "SHORT: the fewest answers of the DIARY (of alike ones the least bits; by 12 answers at most) "
            + "by which alone LEFT is as by all.";
    private static final String BRIEF = "SHORT, as bits of the DIARY; NONE: it has more than 12 answers.";

    public static void main(String[] args) {
        cases().play();
    }

    static Cases cases() {
        return Cases.of(BoundaryDiaryTest.class);
    }

    /** Two atoms, a well that knows both; question 0 is a, 1 is b, 2 is a and b, 3 is always so. */
    private static BitWells two() {
        return Cases.land("atoms 2;place;well 0 ab;", "a", "b", "a and b", "a or not a");
    }

    /** No state is left: the well has said no to a on day 0, yes on day 1. */
    private static BitWells none() {
        BitWells x = two();
        x.ask(0, 0, 0);
        x.be(1);
        x.ask(0, 0, 1);
        Cases.due("left", 0, x.leftMany());
        return x;
    }

    private static BitWells full() {
        BitWells x = Cases.land("atoms 1;place;well 0 a;well 0 a;", "a");
        for (int day = 0; day < 60; day++) {
            Cases.due("asked on " + day, 0, x.ask(0, 0, day));
        }
        return x;
    }

    // ---- ask

    @Cases.Says({ASKED, ASK})
    static void p15_ask_onceADay() {
        BitWells x = Cases.land("atoms 2;place;well 0 a;well 0 a;", "a", "b");
        Cases.due("asked", 0, x.ask(0, 0, 5));
        Cases.due("again", -1, x.ask(0, 0, 5));
        Cases.due("another question", -1, x.ask(0, 1, 5));
        Cases.due("a question without a text", -1, x.ask(0, 5, 5));
        Cases.due("another well", 0, x.ask(1, 0, 5));
        Cases.due("the day ahead", 0, x.ask(0, 0, 4));
        Cases.due("the day behind", 0, x.ask(0, 0, 6));
        Cases.due("answers", 4, x.told(6));
    }

    @Cases.Says({ASK, "DAYS 0 to 364."})
    static void p15_ask_onTheFirstAndTheLastDay() {
        BitWells x = two();
        Cases.due("on 364", 0, x.ask(0, 0, 364));
        Cases.due("on 0", 0, x.ask(0, 0, 0));
        Cases.due("on 364 again", -1, x.ask(0, 0, 364));
        Cases.due("the first", 364, x.diary(0, 1));
        Cases.due("the second", 0, x.diary(1, 1));
    }

    @Cases.Says(ASK)
    static void p15_ask_perhapsIsAnAnswerToo() {
        BitWells x = Cases.land("atoms 2;place;well 0 a;dry 0 3 3;frost 4 4;", "a", "b");
        Cases.due("dry", 2, x.ask(0, 0, 3));
        Cases.due("frost", 2, x.ask(0, 0, 4));
        Cases.due("not known", 2, x.ask(0, 1, 5));
        Cases.due("dry, again", -1, x.ask(0, 0, 3));
        Cases.due("answers", 3, x.told(6));
        Cases.due("left", 15, x.left());
    }

    @Cases.Says({ASKED, ASK})
    static void p15_ask_60AreTaken() {
        BitWells x = full();
        Cases.due("answers", 60, x.told(6));
        Cases.due("the last", 59, x.diary(59, 1));
    }

    @Cases.Says({ASKED, ASK})
    static void p15_ask_theDiaryIsFull() {
        BitWells x = full();
        Cases.due("the same well", -2, x.ask(0, 0, 60));
        Cases.due("another well", -2, x.ask(1, 0, 0));
        Cases.due("answers", 60, x.told(6));
        Cases.due("none is refused", 0, x.status(0) + x.status(1));
    }

    @Cases.Says(ASK)
    static void p15_ask_askedIsAheadOfFull() {
        BitWells x = full();
        Cases.due("asked on 0", -1, x.ask(0, 0, 0));
        Cases.due("asked on 59", -1, x.ask(0, 0, 59));
    }

    @Cases.Says(ASK)
    static void p15_ask_nothingIsDone() {
        BitWells x = full();
        java.util.List<Long> before = Cases.digest(x);
        x.ask(0, 0, 0);
        x.ask(0, 0, 60);
        Cases.same("what is not asked", before, Cases.digest(x));
    }

    @Cases.Says({ASK, TEAR})
    static void p15_ask_whenItIsFullNoMore() {
        BitWells x = full();
        Cases.due("the last goes", 1, x.tear(59));
        Cases.due("another", 0, x.ask(1, 0, 0));
        Cases.due("full again", -2, x.ask(1, 0, 1));
    }

    @Cases.Says(ASKED)
    static void p15_ask_byTheStateThatIs() {
        BitWells x = two();
        Cases.due("in 0", 0, x.ask(0, 2, 0));
        x.be(3);
        Cases.due("in 3", 1, x.ask(0, 2, 1));
        Cases.due("what it said", 0, x.diary(0, 2));
    }

    @Cases.Says({ASK, TEXTLESS})
    static void p15_ask_withoutAText() {
        BitWells x = Cases.land("place;well 0 a;lies 0 2 1;");
        Cases.due("no", 0, x.ask(0, 5, 0));
        Cases.due("yes, as it lies", 1, x.ask(0, 5, 1));
        Cases.due("left", 0xFFFF, x.left());
    }

    // ---- left

    @Cases.Says({LEFT, "STATES that are LEFT, as bits."})
    static void p16_left_all() {
        Cases.due("of 2", 3, Cases.land("atoms 1;").left());
        Cases.due("of 16", 0xFFFF, Cases.land("").left());
        Cases.due("of 64", -1L, Cases.land("place;well 0 a;well 0 a;vein 0 1 0 0;vein 0 1 0 0;").left());
    }

    @Cases.Says({LEFT, "STATES that are LEFT, as bits."})
    static void p16_left_none() {
        Cases.due("left", 0, none().left());
    }

    @Cases.Says({LEFT, "STATES that are LEFT, as bits."})
    static void p16_left_state63Alone() {
        BitWells x = Cases.land("place;well 0 abcd;well 0 a;vein 0 1 0 0;vein 0 1 1 1;is 63;", "a and b and c and d", "a");
        x.ask(0, 0, 2);
        Cases.due("four", 0x8000_8000_8000_8000L, x.left());
        x.ask(0, 1, 0);
        x.ask(0, 1, 1);
        Cases.due("the last", Long.MIN_VALUE, x.left());
        Cases.due("one", 1, x.leftMany());
    }

    @Cases.Says({LEFT, "How many."})
    static void p17_leftMany_fromAllToNone() {
        BitWells x = Cases.land("place;well 0 a;well 0 a;vein 0 1 0 0;vein 0 1 0 0;", "a");
        Cases.due("all", 64, x.leftMany());
        x.ask(0, 0, 5);
        Cases.due("half", 32, x.leftMany());
        Cases.due("none", 0, none().leftMany());
        Cases.due("of 2", 2, Cases.land("atoms 1;").leftMany());
    }

    @Cases.Says("The STATE that IS another one (it does not change the DIARY): what it was.")
    static void p16_left_theStateThatIsNeedNotBe() {
        BitWells x = two();
        x.ask(0, 0, 0);
        x.be(3);
        Cases.due("those without a", 5, x.left());
    }

    // ---- known, vein

    @Cases.Says({KNOWN, KNOWN_HOW})
    static void p18_known_inAll() {
        BitWells x = Cases.aim(two(), "a");
        x.be(1);
        x.ask(0, 0, 0);
        Cases.due("1", 1, x.known(0));
        Cases.due("always so", 1, Cases.aim(two(), "b or not b").known(0));
    }

    @Cases.Says({KNOWN, KNOWN_HOW})
    static void p18_known_inNone() {
        BitWells x = Cases.aim(two(), "a");
        x.ask(0, 0, 0);
        Cases.due("0", 0, x.known(0));
        Cases.due("never so", 0, Cases.aim(two(), "b and not b").known(0));
    }

    @Cases.Says(KNOWN_HOW)
    static void p18_known_inSome() {
        Cases.due("in half", 2, Cases.aim(two(), "a").known(0));
        Cases.due("in one of four", 2, Cases.aim(two(), "a and b").known(0));
        Cases.due("in three of four", 2, Cases.aim(two(), "a or b").known(0));
    }

    @Cases.Says(KNOWN_HOW)
    static void p18_known_noneIsLeft() {
        Cases.due("a", -1, Cases.aim(none(), "a").known(0));
        Cases.due("without a text", -1, none().known(0));
    }

    @Cases.Says({KNOWN_HOW, TEXTLESS})
    static void p18_known_withoutAText() {
        Cases.due("never so", 0, two().known(0));
    }

    @Cases.Says({KNOWN_HOW, "DAYS 0 to 364."})
    static void p18_known_onTheFirstAndTheLastDay() {
        BitWells x = Cases.aim(Cases.land("atoms 1;place;well 0 a;dry 0 1 363;lies 0 28 0;is 1;", "a"), "says 0 a");
        x.ask(0, 0, 2);
        Cases.due("in some on 0", 2, x.known(0));
        Cases.due("in none, as it is silent", 0, x.known(1));
        Cases.due("in none on 363", 0, x.known(363));
        Cases.due("in some on 364", 2, x.known(364));
        x.ask(0, 0, 364);
        Cases.due("in none, as it lies", 0, x.known(0));
    }

    @Cases.Says(VEIN)
    static void p19_vein_each() {
        BitWells x = Cases.land("atoms 1;place;well 0 a;well 0 a;vein 0 1 0 0;vein 1 0 1 1;is 3;", "a");
        Cases.due("either", 2, x.vein(0));
        Cases.due("either", 2, x.vein(1));
        x.ask(0, 0, 9);
        Cases.due("either still", 2, x.vein(0));
        x.ask(1, 0, 0);
        x.ask(1, 0, 1);
        Cases.due("the other", 1, x.vein(0));
        Cases.due("the first told", 0, x.vein(1));
        x.be(2);
        x.ask(0, 0, 10);
        Cases.due("none is left", -1, x.vein(0));
        Cases.due("none is left", -1, x.vein(1));
    }

    @Cases.Says(VEIN)
    static void p19_vein_ofStatesPast32() {
        BitWells x = Cases.land("place;well 0 a;well 0 a;vein 0 1 0 0;vein 0 1 1 1;is 33;", "a");
        x.ask(0, 0, 9);
        x.ask(0, 0, 0);
        Cases.due("the first told", 0, x.vein(0));
        Cases.due("either", 2, x.vein(1));
        x.ask(0, 0, 1);
        Cases.due("the other", 1, x.vein(1));
    }

    @Cases.Says(KNOWN_HOW)
    static void p18_known_inAllButState63() {
        BitWells x = Cases.land("place;well 0 abcd;well 0 a;vein 0 1 0 0;vein 0 1 1 1;is 63;", "a and b and c and d", "a");
        Cases.aim(x, "not says 1 a");
        x.ask(0, 0, 9);
        Cases.due("in some of four", 2, x.known(0));
        x.ask(0, 1, 0);
        Cases.due("in all, as the other one lies", 1, x.known(0));
        Cases.due("in some by the second vein", 2, x.known(1));
        x.ask(0, 1, 1);
        Cases.due("state 63 alone", Long.MIN_VALUE, x.left());
        Cases.due("in all of one", 1, x.known(1));
        Cases.due("in none of one", 0, x.known(2));
    }

    // ---- diary, tear

    @Cases.Says(DIARY)
    static void p20_diary_noneSuch() {
        BitWells x = two();
        for (int what = 0; what < 4; what++) {
            Cases.due("of none, the first, " + what, -1, x.diary(0, what));
        }
        x.ask(0, 0, 7);
        Cases.due("the last", 7, x.diary(0, 1));
        Cases.due("past it", -1, x.diary(1, 1));
        Cases.due("ahead of the first", -1, x.diary(-1, 1));
        Cases.due("far ahead", -1, x.diary(Integer.MIN_VALUE, 3));
        Cases.due("far past", -1, x.diary(Integer.MAX_VALUE, 3));
    }

    @Cases.Says(DIARY)
    static void p20_diary_ofAFullOne() {
        BitWells x = full();
        Cases.due("the first", 0, x.diary(0, 1));
        Cases.due("the last", 59, x.diary(59, 1));
        Cases.due("past it", -1, x.diary(60, 1));
    }

    @Cases.Says(DIARY)
    static void p20_diary_theLastWellDayAndWhatItSaid() {
        BitWells x = Cases.land("place;" + "well 0 a;".repeat(6) + "dry 5 0 0;lies 4 1 0;", "a");
        x.ask(5, 0, 364);
        x.ask(4, 0, 364);
        x.ask(5, 0, 0);
        int[][] want = {{5, 364, 0, 8}, {4, 364, 1, 8}, {5, 0, 2, 8}};
        for (int i = 0; i < 3; i++) {
            for (int what = 0; what < 4; what++) {
                Cases.due("answer " + i + ", " + what, want[i][what], x.diary(i, what));
            }
        }
    }

    @Cases.Says(DIARY)
    static void p20_diary_leftBehindItFromAllToNone() {
        BitWells x = two();
        x.ask(0, 3, 0);
        x.ask(0, 0, 1);
        x.be(1);
        x.ask(0, 0, 2);
        Cases.due("all", 4, x.diary(0, 3));
        Cases.due("half", 2, x.diary(1, 3));
        Cases.due("none", 0, x.diary(2, 3));
    }

    @Cases.Says(DIARY)
    static void p20_diary_goneOnes() {
        BitWells x = two();
        x.ask(0, 0, 0);
        x.ask(0, 0, 1);
        x.tear(1);
        Cases.due("the one that stays", 0, x.diary(0, 1));
        Cases.due("the one that went", -1, x.diary(1, 1));
    }

    @Cases.Says(TEAR)
    static void p21_tear_fromEach() {
        int[][] due = {{Integer.MIN_VALUE, 3}, {-1, 3}, {0, 3}, {1, 2}, {2, 1}, {3, 0}, {4, 0}, {Integer.MAX_VALUE, 0}};
        for (int[] d : due) {
            BitWells x = two();
            for (int day = 0; day < 3; day++) {
                x.ask(0, 0, day);
            }
            Cases.due("from " + d[0], d[1], x.tear(d[0]));
            Cases.due("left of them behind " + d[0], 3 - d[1], x.told(6));
        }
    }

    @Cases.Says(TEAR)
    static void p21_tear_ofNone() {
        BitWells x = two();
        Cases.due("0", 0, x.tear(0));
        Cases.due("-1", 0, x.tear(-1));
        Cases.due("9", 0, x.tear(9));
    }

    @Cases.Says(TEAR)
    static void p21_tear_ofAFullOne() {
        BitWells x = full();
        Cases.due("past the last", 0, x.tear(60));
        Cases.due("the last", 1, x.tear(59));
        Cases.due("the others", 59, x.tear(-1));
    }

    @Cases.Says(TEAR)
    static void p21_tear_itMayBeAskedAnew() {
        BitWells x = two();
        x.ask(0, 0, 5);
        x.ask(0, 0, 6);
        x.tear(1);
        Cases.due("the one that stays", -1, x.ask(0, 0, 5));
        Cases.due("the one that went", 0, x.ask(0, 0, 6));
    }

    @Cases.Says(TEAR)
    static void p21_tear_allStatesAreLeftAgain() {
        BitWells x = none();
        x.tear(1);
        Cases.due("by the first", 5, x.left());
        x.tear(0);
        Cases.due("by none", 15, x.left());
    }

    // ---- weightiest, brief

    @Cases.Says(WEIGHTIEST)
    static void p22_weightiest_ofNone() {
        Cases.due("none", -1, two().weightiest());
        BitWells x = two();
        x.ask(0, 0, 0);
        x.tear(0);
        Cases.due("none any more", -1, x.weightiest());
    }

    @Cases.Says(WEIGHTIEST)
    static void p22_weightiest_ofOne() {
        BitWells x = two();
        x.ask(0, 3, 0);
        Cases.due("though it tells nothing", 0, x.weightiest());
    }

    @Cases.Says(WEIGHTIEST)
    static void p22_weightiest_ofAlikeOnesTheFirst() {
        BitWells x = two();
        x.ask(0, 0, 0);
        x.ask(0, 1, 1);
        Cases.due("two that weigh the same", 0, x.weightiest());
        BitWells y = two();
        y.ask(0, 0, 0);
        y.ask(0, 0, 1);
        y.ask(0, 0, 2);
        Cases.due("three that make up for one another", 0, y.weightiest());
    }

    @Cases.Says(WEIGHTIEST)
    static void p22_weightiest_theMostThoughLaterOnesWeighLess() {
        BitWells x = Cases.land("atoms 3;place;well 0 abc;", "a", "b and c", "b");
        x.ask(0, 0, 0);
        x.ask(0, 1, 1);
        Cases.due("a half is more than a quarter", 0, x.weightiest());
        BitWells y = Cases.land("atoms 3;place;well 0 abc;", "b and c", "a", "c and a");
        y.ask(0, 0, 0);
        y.ask(0, 1, 1);
        y.ask(0, 2, 2);
        Cases.due("the middle one", 1, y.weightiest());
    }

    @Cases.Says(WEIGHTIEST)
    static void p22_weightiest_theLastOfAFullOne() {
        BitWells x = Cases.land("atoms 1;place;well 0 a;well 0 a;", "a or not a", "a");
        for (int day = 0; day < 59; day++) {
            x.ask(0, 0, day);
        }
        x.ask(0, 1, 59);
        Cases.due("the only one that tells", 59, x.weightiest());
    }

    @Cases.Says(WEIGHTIEST)
    static void p22_weightiest_whenNoneIsLeft() {
        Cases.due("each leaves two", 0, none().weightiest());
        BitWells x = two();
        x.be(1);
        x.ask(0, 0, 0);
        x.ask(0, 0, 1);
        x.be(0);
        x.ask(0, 0, 2);
        Cases.due("without the one that is unlike two are left", 2, x.weightiest());
        x.ask(0, 0, 3);
        Cases.due("two that are unlike leave none, whichever goes", 0, x.weightiest());
    }

    @Cases.Says({SHORT, BRIEF})
    static void p52_brief_ofNone() {
        Cases.due("none", 0, two().brief());
    }

    @Cases.Says({SHORT, BRIEF})
    static void p52_brief_noneIsNeeded() {
        BitWells x = two();
        x.ask(0, 3, 0);
        x.ask(0, 3, 1);
        Cases.due("they tell nothing", 0, x.brief());
    }

    @Cases.Says({SHORT, BRIEF})
    static void p52_brief_allAreNeeded() {
        BitWells x = two();
        x.ask(0, 0, 0);
        x.ask(0, 1, 1);
        Cases.due("both", 3, x.brief());
    }

    @Cases.Says({SHORT, BRIEF})
    static void p52_brief_ofAlikeOnesTheLeastBits() {
        BitWells x = two();
        x.ask(0, 3, 0);
        x.ask(0, 0, 1);
        x.ask(0, 0, 2);
        Cases.due("the first that tells", 2, x.brief());
        BitWells y = two();
        y.be(3);
        y.ask(0, 0, 0);
        y.ask(0, 1, 1);
        y.ask(0, 2, 2);
        Cases.due("one ahead of two, though its bits are more", 4, y.brief());
    }

    @Cases.Says({SHORT, BRIEF})
    static void p52_brief_12And13() {
        BitWells x = two();
        for (int day = 0; day < 11; day++) {
            x.ask(0, 3, day);
        }
        x.ask(0, 0, 11);
        Cases.due("twelve", 1 << 11, x.brief());
        x.ask(0, 0, 12);
        Cases.due("thirteen", -1, x.brief());
        x.tear(12);
        Cases.due("twelve again", 1 << 11, x.brief());
    }

    @Cases.Says({SHORT, BRIEF})
    static void p52_brief_60() {
        Cases.due("more than 12", -1, full().brief());
    }

    @Cases.Says({SHORT, BRIEF})
    static void p52_brief_whenNoneIsLeft() {
        BitWells x = two();
        x.ask(0, 1, 0);
        x.ask(0, 0, 1);
        x.be(1);
        x.ask(0, 0, 2);
        Cases.due("the two that gainsay", 6, x.brief());
    }

    // ---- hearsay

    @Cases.Says({HEARSAY, HEAR})
    static void p23_hear_10And11() {
        BitWells x = two();
        for (int i = 1; i <= 10; i++) {
            Cases.due("the " + i, i, x.hear(0, 0, 0, 1));
        }
        Cases.due("one more", -1, x.hear(0, 0, 0, 0));
        Cases.due("there are 10", 10, x.told(7));
        Cases.due("nothing is done", 10, x.trusted());
        Cases.due("none is false", 0, x.hearsay(0));
        Cases.due("none is refused", 0, x.status(0) + x.status(1));
    }

    @Cases.Says({HEARSAY, HEAR, DEAF})
    static void p23_hear_whenThereAre10NoMore() {
        BitWells x = two();
        for (int i = 0; i < 10; i++) {
            x.hear(0, 0, 0, 1);
        }
        x.deaf();
        Cases.due("the first", 1, x.hear(0, 0, 0, 0));
        Cases.due("it counts", 5, x.trusted());
    }

    @Cases.Says({HEARSAY, "IllegalArgumentException: also said (0 to 2)."})
    static void p23_hear_saidEachOfThree() {
        long[] want = {5, 10, 0};
        for (int said = 0; said <= 2; said++) {
            BitWells x = two();
            Cases.due("said " + said, 1, x.hear(0, 0, 0, said));
            Cases.due("false when it can't be", said == 2 ? 1 : 0, x.hearsay(0));
            Cases.due("trusted", said == 2 ? 15 : want[said], x.trusted());
        }
    }

    @Cases.Says({HEARSAY, "IllegalArgumentException: also said (0 to 2)."})
    static void p23_hear_perhapsOfASilentWell() {
        BitWells x = Cases.land("atoms 1;place;well 0 a;dry 0 364 364;frost 0 0;", "a");
        for (int day : new int[] {0, 364}) {
            x.deaf();
            x.hear(0, 0, day, 2);
            Cases.due("perhaps", 0, x.hearsay(0));
            x.hear(0, 0, day, 1);
            x.hear(0, 0, day, 0);
            Cases.due("yes and no", 6, x.hearsay(1));
        }
    }

    @Cases.Says({HEARSAY, TEXTLESS})
    static void p23_hear_toAQuestionWithoutAText() {
        BitWells x = Cases.land("atoms 1;place;well 0 a;lies 0 2 1;", "a");
        x.hear(0, 5, 0, 0);
        x.hear(0, 5, 1, 1);
        Cases.due("no, and yes on the day it lies", 0, x.hearsay(1));
        x.hear(0, 5, 0, 1);
        x.hear(0, 5, 1, 0);
        x.hear(0, 5, 0, 2);
        Cases.due("all else", 28, x.hearsay(1));
    }

    @Cases.Says(HEARSAY)
    static void p23_hear_theSameOftenAndThoughItWasAsked() {
        BitWells x = two();
        x.ask(0, 0, 0);
        Cases.due("one", 1, x.hear(0, 0, 0, 0));
        Cases.due("the same", 2, x.hear(0, 0, 0, 0));
        Cases.due("the other", 3, x.hear(0, 0, 0, 1));
        Cases.due("left is as it was", 5, x.left());
        Cases.due("the false one", 4, x.hearsay(1));
        Cases.due("it may still be asked on another day", 0, x.ask(0, 0, 1));
    }

    @Cases.Says({FALSE, FALSE_HOW})
    static void p24_hearsay_ofNone() {
        Cases.due("how many", 0, two().hearsay(0));
        Cases.due("bits", 0, two().hearsay(1));
    }

    @Cases.Says({FALSE, FALSE_HOW})
    static void p24_hearsay_allTenAreFalse() {
        BitWells x = two();
        x.ask(0, 0, 0);
        for (int i = 0; i < 10; i++) {
            x.hear(0, 0, 0, 1);
        }
        Cases.due("how many", 10, x.hearsay(0));
        Cases.due("bits", 1023, x.hearsay(1));
    }

    @Cases.Says({FALSE, FALSE_HOW})
    static void p24_hearsay_theFewest() {
        BitWells x = two();
        x.hear(0, 0, 0, 0);
        x.hear(0, 0, 0, 1);
        x.hear(0, 0, 1, 0);
        Cases.due("the one, though its bits are more", 2, x.hearsay(1));
        Cases.due("how many", 1, x.hearsay(0));
    }

    @Cases.Says({FALSE, FALSE_HOW, TRUSTED})
    static void p24_hearsay_onlyState0IsLeft() {
        BitWells x = two();
        x.ask(0, 0, 0);
        x.ask(0, 1, 1);
        Cases.due("left", 1, x.left());
        Cases.due("none is false", 0, x.hearsay(0));
        x.hear(0, 0, 0, 1);
        x.hear(0, 1, 0, 0);
        Cases.due("the first", 1, x.hearsay(1));
        Cases.due("trusted", 1, x.trusted());
    }

    @Cases.Says({FALSE, FALSE_HOW})
    static void p24_hearsay_ofAlikeOnesTheLeastBitsThoughOfALesserState() {
        BitWells x = two();
        x.hear(0, 0, 0, 1);
        x.hear(0, 0, 0, 0);
        Cases.due("the first, so that a is not so", 1, x.hearsay(1));
        Cases.due("trusted", 5, x.trusted());
    }

    @Cases.Says({FALSE, FALSE_HOW})
    static void p24_hearsay_ofAlikeOnesTheLeastBits() {
        BitWells x = two();
        x.hear(0, 0, 0, 0);
        x.hear(0, 0, 0, 1);
        Cases.due("the first", 1, x.hearsay(1));
        x.hear(0, 1, 0, 1);
        x.hear(0, 1, 0, 0);
        Cases.due("the first and the third", 5, x.hearsay(1));
        Cases.due("how many", 2, x.hearsay(0));
    }

    @Cases.Says(FALSE_HOW)
    static void p24_hearsay_noneIsLeft() {
        BitWells x = none();
        Cases.due("how many", -1, x.hearsay(0));
        Cases.due("bits", -1, x.hearsay(1));
        x.hear(0, 0, 0, 0);
        Cases.due("how many", -1, x.hearsay(0));
        Cases.due("bits", -1, x.hearsay(1));
    }

    @Cases.Says({FALSE, TRUSTED})
    static void p25_trusted_withoutHearsayAllThatAreLeft() {
        BitWells x = two();
        Cases.due("all", 15, x.trusted());
        x.ask(0, 0, 0);
        Cases.due("left", 5, x.trusted());
        Cases.due("of 64", -1L, Cases.land("place;well 0 a;well 0 a;vein 0 1 0 0;vein 0 1 0 0;").trusted());
    }

    @Cases.Says(TRUSTED)
    static void p25_trusted_noneIsLeft() {
        BitWells x = none();
        Cases.due("none", 0, x.trusted());
        x.hear(0, 0, 0, 0);
        Cases.due("none", 0, x.trusted());
    }

    @Cases.Says(TRUSTED)
    static void p25_trusted_allAreFalse() {
        BitWells x = two();
        x.ask(0, 0, 0);
        x.hear(0, 0, 0, 1);
        Cases.due("left", 5, x.trusted());
    }

    @Cases.Says(TRUSTED)
    static void p25_trusted_state63Alone() {
        BitWells x = Cases.land("place;well 0 abcd;well 0 a;vein 0 1 0 0;vein 0 1 1 1;", "a and b and c and d", "a");
        x.hear(0, 0, 9, 1);
        x.hear(0, 1, 0, 1);
        x.hear(0, 1, 1, 1);
        Cases.due("the last", Long.MIN_VALUE, x.trusted());
        Cases.due("all are left", -1L, x.left());
        Cases.due("none is false", 0, x.hearsay(1));
    }

    @Cases.Says(TRUSTED)
    static void p25_trusted_allButTheFalseOnes() {
        BitWells x = two();
        x.hear(0, 0, 0, 1);
        x.hear(0, 0, 0, 0);
        x.hear(0, 1, 0, 1);
        Cases.due("not a, and b", 4, x.trusted());
    }

    @Cases.Says(DEAF)
    static void p26_deaf_ofNoneOneTen() {
        BitWells x = two();
        Cases.due("none", 0, x.deaf());
        x.hear(0, 0, 0, 1);
        Cases.due("one", 1, x.deaf());
        Cases.due("none any more", 0, x.deaf());
        for (int i = 0; i < 12; i++) {
            x.hear(0, 0, 0, 1);
        }
        Cases.due("ten", 10, x.deaf());
        Cases.due("none any more", 0, x.told(7));
        Cases.due("all are trusted", 15, x.trusted());
    }

    @Cases.Says(DEAF)
    static void p26_deaf_theDiaryStays() {
        BitWells x = two();
        x.ask(0, 0, 0);
        x.hear(0, 0, 0, 1);
        x.deaf();
        Cases.due("answers", 1, x.told(6));
        Cases.due("left", 5, x.left());
    }
}
