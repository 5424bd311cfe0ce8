/** The boundary cases of what asking would tell: promises 27 to 34, 44 and 51. */
public final class BoundaryAskingTest {
    private static final String PARTS = "PARTS best: the WELL and the QUESTION (of those that have a text) by which, whatever it says, "
            + "fewest are LEFT at the worst, of these the first (WELL by WELL, by QUESTIONS).";
    private static final String PARTS_HOW = "PARTS best: 0 how many LEFT at the worst, 1 10 times the WELL, and the QUESTION; NONE: "
            + "there are no WELLS, or no QUESTIONS.";
    private static final String ENOUGH = "ENOUGH: the fewest askings on that DAY (each WELL at most one QUESTION, of those that have a "
            + "text) by all answers together of which the GOAL is KNOWN, whichever STATE it is; the first such row (of each WELL in "
            + "turn 0: it is not asked, or the QUESTION and 1).";
    private static final String ENOUGH_HOW = "ENOUGH: 0 how many, 1 the row as digits to the base 10 (WELL 0's the highest); NONE: none "
            + "is (0 STATES LEFT: 0 askings).";
    private static final String TRICK = "TRICK: the first QUESTION (of those that have a text) to a WELL by whose answer alone it is.";
    private static final String CANT = "CAN'T: the first two STATES (the lesser, then the greater one) unlike by the GOAL that are "
            + "alike by all QUESTIONS (that have a text) of all WELLS.";
    private static final String CANT_HOW = "CAN'T: the lesser (what 0), the greater (1); NONE: no two.";
    private static final String WOULD_DO = "WOULD DO: the fewest ATOMS (of alike ones the least bits), so that STATES that have these "
            + "alike are alike by the GOAL.";
    private static final String WOULD_DO_HOW = "WOULD DO, as bits; NONE: not even all.";
    private static final String PLAN = "PLAN from a PLACE on a DAY: at most 3 askings (of QUESTIONS that have a text), each where one is "
            + "or comes to by the least way (FAR), on the DAY on which one comes there (on the next DAY, if one has asked on that DAY); "
            + "what is asked next goes by what was said.";
    private static final String PLAN_DAYS = "The fewest DAYS, at the worst, from that DAY to the last asking (0: none is needed), behind "
            + "which the GOAL (as it is on that last DAY) is KNOWN; past DAY 364 nothing is asked.";
    private static final String PLAN_FIRST = "FIRST: the asking (WELL, QUESTION) with which such a PLAN begins, of these the first.";
    private static final String PLAN_HOW = "PLAN: 0 the DAYS, 1 FIRST (10 times the WELL, and the QUESTION; NONE: none is needed); NONE "
            + "for 0: there is no such PLAN.";
    private static final String YES = "QUESTIONS (with a text) to which a WELL says yes on a DAY in all STATES that are LEFT, as bits "
            + "(none LEFT: all it has a text of).";
    private static final String ALIKE = "In how many STATES of all two QUESTIONS are alike on a DAY.";
    private static final String SPARE = "SPARE on a DAY: WELLS without each of which by itself two STATES that are LEFT, unlike by the "
            + "GOAL and told apart by all WELLS (by QUESTIONS that have a text), are told apart by the others, too.";
    private static final String ODDS = "ODDS that the GOAL is so on a DAY: of STATES that are LEFT, as a fraction.";
    private static final String ODDS_HOW = "ODDS: above (what 0), below (1), in least terms (none LEFT: 0 by 1).";
    private static final String TEXTLESS = "(Without a text a QUESTION, the GOAL are never so.)";
    private static final String DAYS = "DAYS 0 to 364.";

    public static void main(String[] args) {
        cases().play();
    }

    static Cases cases() {
        return Cases.of(BoundaryAskingTest.class);
    }

    /** Two atoms, a well that knows both. */
    private static BitWells two(String... questions) {
        return Cases.land("atoms 2;place;well 0 ab;", questions);
    }

    /** No state is left: the well has said both no and yes to question 0, which is a; question 3 is b; the goal is a. */
    private static BitWells none() {
        BitWells x = two("a");
        Cases.question(x, 3, "b");
        Cases.aim(x, "a");
        x.ask(0, 0, 0);
        x.be(1);
        x.ask(0, 0, 1);
        Cases.due("left", 0, x.leftMany());
        return x;
    }

    private static void parts(BitWells x, int day, int left, int asking) {
        Cases.due("left at the worst", left, x.parts(day, 0));
        Cases.due("the asking", asking, x.parts(day, 1));
    }

    // ---- parts

    @Cases.Says(PARTS_HOW)
    static void p27_parts_noWells() {
        parts(Cases.land("place;", "a", "b"), 0, -1, -1);
    }

    @Cases.Says(PARTS_HOW)
    static void p27_parts_noQuestions() {
        parts(two(), 0, -1, -1);
        parts(Cases.aim(two(), "a"), 364, -1, -1);
    }

    @Cases.Says(PARTS_HOW)
    static void p27_parts_noWellsAndNoQuestions() {
        parts(new BitWells(), 0, -1, -1);
    }

    @Cases.Says(PARTS)
    static void p27_parts_noneIsLeft() {
        parts(none(), 0, 0, 0);
    }

    @Cases.Says(PARTS)
    static void p27_parts_oneIsLeft() {
        BitWells x = two("a", "b");
        x.ask(0, 0, 0);
        x.ask(0, 1, 1);
        parts(x, 0, 1, 0);
    }

    @Cases.Says(PARTS)
    static void p27_parts_silentOnesLeaveAll() {
        BitWells x = Cases.land("place;well 0 a;well 0 a;dry 0 3 3;frost 364 364;", "a");
        parts(x, 364, 16, 0);
        parts(x, 3, 8, 10);
        parts(x, 0, 8, 0);
    }

    @Cases.Says(PARTS)
    static void p27_parts_ofAlikeOnesTheFirst() {
        parts(two("a and b", "a", "b"), 0, 2, 1);
        parts(Cases.land("atoms 2;place;well 0 a;well 0 b;well 0 ab;", "a and b", "b", "b"), 0, 2, 11);
    }

    @Cases.Says({PARTS, PARTS_HOW})
    static void p27_parts_theLastWellAndQuestion() {
        BitWells x = Cases.land("place;" + "well 0 b;".repeat(5) + "well 0 a;");
        Cases.question(x, 5, "a");
        parts(x, 0, 8, 55);
    }

    @Cases.Says(PARTS)
    static void p27_parts_of64() {
        BitWells x = Cases.land("place;well 0 a;well 0 b;vein 0 1 0 0;vein 0 1 0 0;", "a");
        parts(x, 0, 32, 0);
        parts(x, 364, 32, 0);
    }

    @Cases.Says({PARTS, TEXTLESS})
    static void p27_parts_whatHasNoTextIsNotAsked() {
        // by a vein a question without a text would part, too
        BitWells x = Cases.land("atoms 1;place;well 0 a;well 0 a;vein 0 1 5 5;");
        Cases.question(x, 4, "a or not a");
        parts(x, 5, 2, 4);
        parts(x, 4, 4, 4);
    }

    // ---- enough

    private static void enough(BitWells x, int day, int many, int row) {
        Cases.due("askings", many, x.enough(day, 0));
        Cases.due("the row", row, x.enough(day, 1));
    }

    @Cases.Says({ENOUGH, ENOUGH_HOW})
    static void p28_enough_0AsItIsKnown() {
        BitWells x = Cases.aim(two("a", "b"), "a");
        x.ask(0, 0, 0);
        enough(x, 0, 0, 0);
        enough(Cases.aim(two("a"), "b and not b"), 0, 0, 0);
        enough(Cases.aim(two("a"), "b or not b"), 0, 0, 0);
    }

    @Cases.Says(ENOUGH_HOW)
    static void p28_enough_0AsNoneIsLeft() {
        enough(none(), 0, 0, 0);
    }

    @Cases.Says({ENOUGH, TEXTLESS})
    static void p28_enough_0WithoutAGoal() {
        enough(two("a"), 0, 0, 0);
        enough(new BitWells(), 364, 0, 0);
    }

    @Cases.Says(ENOUGH_HOW)
    static void p28_enough_NONEWithoutWells() {
        enough(Cases.aim(Cases.land("place;", "a"), "a"), 0, -1, -1);
    }

    @Cases.Says({ENOUGH, ENOUGH_HOW})
    static void p28_enough_NONEWithoutQuestions() {
        enough(Cases.aim(two(), "a"), 0, -1, -1);
    }

    @Cases.Says({ENOUGH, ENOUGH_HOW})
    static void p28_enough_NONEAsOneWellIsAskedOnce() {
        BitWells x = Cases.aim(two("a", "b"), "a and b");
        enough(x, 0, -1, -1);
        Cases.question(x, 5, "a and b");
        enough(x, 0, 1, 6);
    }

    @Cases.Says({ENOUGH, ENOUGH_HOW})
    static void p28_enough_NONEAsAllAreSilent() {
        BitWells x = Cases.aim(Cases.land("place;well 0 a;well 0 a;dry 0 3 4;dry 1 4 5;frost 364 364;", "a"), "a");
        enough(x, 3, 1, 1);
        enough(x, 4, -1, -1);
        enough(x, 5, 1, 10);
        enough(x, 364, -1, -1);
    }

    @Cases.Says({ENOUGH, ENOUGH_HOW})
    static void p28_enough_1TheFirstRow() {
        enough(Cases.aim(Cases.land("place;" + "well 0 a;".repeat(6), "b", "a", "a"), "a"), 0, 1, 2);
        enough(Cases.aim(Cases.land("place;well 0 a;" + "well 0 b;".repeat(5), "a"), "a"), 0, 1, 100000);
    }

    @Cases.Says({ENOUGH, ENOUGH_HOW})
    static void p28_enough_6() {
        // what the six wells tell are six bits of their own: a and b, turned by a vein each, c, d, c and d turned by the veins
        BitWells x = Cases.land("place;well 0 a;well 0 b;well 0 c;well 0 d;well 0 c;well 0 d;vein 4 0 0 364;vein 5 1 0 364;", "a", "b",
                "c", "d");
        Cases.aim(x, "says 0 a and says 1 b and says 2 c and says 3 d and says 4 c and says 5 d");
        enough(x, 0, 6, 123434);
        enough(x, 364, 6, 123434);
    }

    @Cases.Says({ENOUGH, ENOUGH_HOW})
    static void p28_enough_theQuestionAnd1() {
        BitWells x = Cases.land("place;well 0 a;well 0 b;");
        Cases.question(x, 5, "a");
        Cases.question(x, 0, "b");
        enough(Cases.aim(x, "a and b"), 0, 2, 61);
    }

    @Cases.Says(ENOUGH)
    static void p28_enough_theFewestAheadOfTheFirstRow() {
        BitWells x = Cases.aim(Cases.land("place;well 0 ab;well 0 a;well 0 b;", "a", "b", "a and b"), "a and b");
        enough(x, 0, 1, 300);
    }

    @Cases.Says({ENOUGH, ENOUGH_HOW})
    static void p28_enough_NONEThoughAnotherWellCouldBeAsked() {
        BitWells x = Cases.aim(Cases.land("place;well 0 ab;well 0 c;", "a", "b", "c"), "a and b");
        enough(x, 0, -1, -1);
    }

    @Cases.Says(ENOUGH)
    static void p28_enough_whicheverStateItIs() {
        // behind yes to a just b counts, behind no just c: all are asked at once
        String[] goals = {"a and b or c and not a", "a and c or b and not a"};
        for (String g : goals) {
            enough(Cases.aim(Cases.land("place;well 0 a;well 0 b;well 0 c;", "a", "b", "c"), g), 0, 3, 123);
            enough(Cases.aim(Cases.land("place;well 0 c;well 0 b;well 0 a;", "a", "b", "c"), g), 0, 3, 321);
        }
        BitWells x = Cases.aim(Cases.land("place;well 0 d;well 0 a;well 0 b;well 0 c;", "a", "b", "c", "d"),
                "a and b or not a and [c and not d or d and not c]");
        enough(x, 0, 4, 4123);
    }

    @Cases.Says(ENOUGH)
    static void p28_enough_3OfTheLastOnes() {
        BitWells x = Cases.land("place;well 0 a;well 0 a;well 0 b;well 0 c;", "a", "b", "c");
        enough(Cases.aim(x, "a and b and c"), 0, 3, 123);
    }

    @Cases.Says(ENOUGH)
    static void p28_enough_byAYesInState0Alone() {
        enough(Cases.aim(two("not a and not b"), "a or b"), 0, 1, 1);
    }

    // ---- trick

    @Cases.Says(TRICK)
    static void p29_trick_ofASilentWellWhereState0IsUnlike() {
        BitWells x = Cases.aim(Cases.land("atoms 2;place;well 0 a;frost 0 0;", "a"), "a or b");
        Cases.due("frost", -1, x.trick(0, 0));
        Cases.due("it tells half of it", -1, x.trick(0, 1));
    }

    @Cases.Says(TRICK)
    static void p29_trick_theFirst() {
        BitWells x = Cases.aim(two("b", "not a", "a"), "a");
        Cases.due("the one turned round tells as much", 1, x.trick(0, 0));
    }

    @Cases.Says({TRICK, "TRICK; NONE."})
    static void p29_trick_NONE() {
        Cases.due("it tells of another", -1, Cases.aim(two("b"), "a").trick(0, 0));
        Cases.due("no questions", -1, Cases.aim(two(), "a").trick(0, 0));
        Cases.due("half of it", -1, Cases.aim(two("a", "b"), "a and b").trick(0, 0));
    }

    @Cases.Says(TRICK)
    static void p29_trick_theLast() {
        BitWells x = Cases.aim(two("b", "b", "b", "b", "b", "a"), "a");
        Cases.due("question 5", 5, x.trick(0, 364));
    }

    @Cases.Says(TRICK)
    static void p29_trick_itIsKnownAlready() {
        BitWells x = two();
        Cases.question(x, 4, "b");
        Cases.due("the first that has a text", 4, x.trick(0, 0));
        Cases.due("none has a text", -1, two().trick(0, 0));
    }

    @Cases.Says(TRICK)
    static void p29_trick_noneIsLeft() {
        Cases.due("the first that has a text", 0, none().trick(0, 5));
    }

    @Cases.Says(TRICK)
    static void p29_trick_ofASilentWell() {
        BitWells x = Cases.aim(Cases.land("place;well 0 a;dry 0 0 0;frost 364 364;", "a"), "a");
        Cases.due("dry on 0", -1, x.trick(0, 0));
        Cases.due("on 1", 0, x.trick(0, 1));
        Cases.due("frost on 364", -1, x.trick(0, 364));
    }

    // ---- cant

    private static void cant(BitWells x, int day, int lesser, int greater) {
        Cases.due("the lesser", lesser, x.cant(day, 0));
        Cases.due("the greater", greater, x.cant(day, 1));
    }

    @Cases.Says({CANT, CANT_HOW})
    static void p30_cant_noTwo() {
        cant(Cases.aim(two("a"), "a"), 0, -1, -1);
        cant(two("a"), 0, -1, -1);
        cant(Cases.aim(two(), "a or not a"), 0, -1, -1);
    }

    @Cases.Says(CANT_HOW)
    static void p30_cant_noneOrOneIsLeft() {
        cant(none(), 0, -1, -1);
        BitWells x = Cases.aim(two("a", "b"), "a");
        x.ask(0, 0, 0);
        x.ask(0, 1, 1);
        cant(x, 0, -1, -1);
    }

    @Cases.Says(CANT)
    static void p30_cant_byAYesInState0Alone() {
        cant(Cases.aim(two("not a and not b"), "a or b"), 0, -1, -1);
        cant(Cases.aim(two("not a and not b"), "a"), 0, 1, 2);
    }

    @Cases.Says({CANT, CANT_HOW})
    static void p30_cant_withoutQuestionsOrWells() {
        cant(Cases.aim(two(), "b"), 0, 0, 2);
        cant(Cases.aim(Cases.land("place;", "b"), "b"), 0, 0, 2);
    }

    @Cases.Says({CANT, CANT_HOW})
    static void p30_cant_silentOnes() {
        BitWells x = Cases.aim(Cases.land("place;well 0 abcd;dry 0 0 0;frost 364 364;", "a", "b", "c", "d"), "d");
        cant(x, 0, 0, 8);
        cant(x, 1, -1, -1);
        cant(x, 364, 0, 8);
    }

    @Cases.Says({CANT, CANT_HOW})
    static void p30_cant_theFirstTwo() {
        BitWells x = Cases.aim(Cases.land("place;well 0 a;well 0 b;", "a", "b"), "a and b and c or a and b and d");
        cant(x, 0, 3, 7);
    }

    @Cases.Says({CANT, CANT_HOW})
    static void p30_cant_theLastTwo() {
        // what is left are states 59 and 63: the question of c is asked no more
        BitWells x = Cases.land("place;well 0 abcd;well 0 a;vein 0 1 0 0;vein 0 1 1 1;is 63;", "a and b and d", "a");
        Cases.aim(x, "c");
        x.ask(0, 0, 2);
        x.ask(0, 1, 0);
        x.ask(0, 1, 1);
        Cases.due("left", 1L << 59 | 1L << 63, x.left());
        cant(x, 9, 59, 63);
    }

    // ---- atoms

    @Cases.Says(WOULD_DO)
    static void p31_atoms_none() {
        Cases.due("without a goal", 0, two("a").atoms(0));
        Cases.due("always so", 0, Cases.aim(two(), "a or not a").atoms(0));
        Cases.due("none is left", 0, none().atoms(0));
        BitWells x = Cases.aim(two("a", "b"), "a and b");
        x.ask(0, 0, 0);
        Cases.due("known", 0, x.atoms(0));
    }

    @Cases.Says(WOULD_DO)
    static void p31_atoms_all() {
        Cases.due("of four", 15, Cases.aim(Cases.land(""), "a and b and c and d").atoms(0));
        Cases.due("of one", 1, Cases.aim(Cases.land("atoms 1;"), "a").atoms(0));
    }

    @Cases.Says(WOULD_DO)
    static void p31_atoms_theLastAlone() {
        Cases.due("d", 8, Cases.aim(Cases.land(""), "d").atoms(0));
    }

    @Cases.Says(WOULD_DO)
    static void p31_atoms_ofAlikeOnesTheLeastBits() {
        BitWells x = Cases.land("atoms 3;place;well 0 abc;", "if a then b and [if b then a]", "[if a then b] and [if b then a]");
        Cases.aim(x, "b");
        x.be(3);
        x.ask(0, 1, 0);
        Cases.due("left: a and b alike", 0b10011001, x.left());
        Cases.due("a, as good as b", 1, x.atoms(0));
    }

    @Cases.Says(WOULD_DO)
    static void p31_atoms_theFewestAheadOfTheLeastBits() {
        BitWells x = Cases.aim(Cases.land("atoms 3;"), "c");
        Cases.due("c, not a and b", 4, x.atoms(0));
    }

    @Cases.Says({WOULD_DO, WOULD_DO_HOW})
    static void p31_atoms_NONE() {
        BitWells x = Cases.aim(Cases.land("atoms 1;place;well 0 a;well 0 a;vein 0 1 0 0;vein 0 1 364 364;"), "says 0 a");
        Cases.due("by the first vein", -1, x.atoms(0));
        Cases.due("by none", 1, x.atoms(1));
        Cases.due("by the last", -1, x.atoms(364));
    }

    @Cases.Says({WOULD_DO, WOULD_DO_HOW})
    static void p31_atoms_NONEAsAVeinIsNoAtom() {
        // the goal is so where the first told lies, whatever a is
        String goal = "a and not says 0 a or not a and says 0 a";
        BitWells x = Cases.aim(Cases.land("atoms 1;place;well 0 a;well 0 a;vein 0 1 5 5;"), goal);
        Cases.due("by the vein", -1, x.atoms(5));
        Cases.due("never so", 0, x.atoms(4));
    }

    // ---- plan

    private static void plan(BitWells x, int place, int day, int days, int first) {
        Cases.due("days from " + place + " on " + day, days, x.plan(place, day, 0));
        Cases.due("first from " + place + " on " + day, first, x.plan(place, day, 1));
    }

    @Cases.Says({PLAN_DAYS, PLAN_HOW})
    static void p32_plan_noneIsNeeded() {
        plan(Cases.aim(two("a"), "a or not a"), 0, 0, 0, -1);
        plan(two("a"), 0, 364, 0, -1);
        BitWells x = Cases.aim(two("a"), "a");
        x.ask(0, 0, 0);
        plan(x, 0, 0, 0, -1);
    }

    @Cases.Says(PLAN_HOW)
    static void p32_plan_noneIsLeft() {
        plan(none(), 0, 0, 0, -1);
    }

    @Cases.Says(PLAN_HOW)
    static void p32_plan_0DaysByOneAsking() {
        plan(Cases.aim(two("a"), "a"), 0, 0, 0, 0);
        plan(Cases.aim(two("a"), "a"), 0, 364, 0, 0);
    }

    @Cases.Says(PLAN_HOW)
    static void p32_plan_noSuchPlan() {
        plan(Cases.aim(Cases.land("place;", "a"), "a"), 0, 0, -1, -1);
        plan(Cases.aim(two(), "a"), 0, 0, -1, -1);
        plan(Cases.aim(two("b"), "a"), 0, 0, -1, -1);
        plan(Cases.aim(Cases.land("place;place;well 1 a;", "a"), "a"), 0, 0, -1, -1);
    }

    @Cases.Says(PLAN_DAYS)
    static void p32_plan_pastDay364NothingIsAsked() {
        BitWells x = Cases.aim(Cases.land("place;place;road 0 1 9;well 1 a;", "a"), "a");
        plan(x, 0, 355, 9, 0);
        plan(x, 0, 356, -1, -1);
        plan(x, 0, 364, -1, -1);
        plan(x, 1, 364, 0, 0);
    }

    @Cases.Says({PLAN, PLAN_DAYS})
    static void p32_plan_theSecondAskingPast364() {
        BitWells here = Cases.aim(two("a", "b"), "a and b");
        plan(here, 0, 363, 1, 0);
        plan(here, 0, 364, -1, -1);
        BitWells there = Cases.aim(Cases.land("place;place;road 0 1 2;well 0 a;well 1 b;", "a", "b"), "a and b");
        plan(there, 0, 362, 2, 0);
        plan(there, 0, 363, -1, -1);
    }

    @Cases.Says(PLAN)
    static void p32_plan_onTheNextDayIfOneHasAsked() {
        BitWells one = Cases.aim(two("a", "b"), "a and b");
        plan(one, 0, 0, 1, 0);
        BitWells both = Cases.aim(Cases.land("place;well 0 a;well 0 b;", "a", "b"), "a and b");
        plan(both, 0, 0, 1, 0);
    }

    @Cases.Says(PLAN)
    static void p32_plan_byARoadOnTheDayOneComesThere() {
        BitWells x = Cases.aim(Cases.land("place;place;road 0 1 1;well 0 a;well 1 b;", "a", "b"), "a and b");
        plan(x, 0, 0, 1, 0);
        plan(x, 1, 0, 1, 11);
    }

    @Cases.Says(PLAN)
    static void p32_plan_3Askings() {
        BitWells x = Cases.aim(Cases.land("place;well 0 abcd;", "a", "b", "c", "d"), "a and b and c");
        plan(x, 0, 0, 2, 0);
        plan(x, 0, 362, 2, 0);
        plan(x, 0, 363, -1, -1);
    }

    @Cases.Says(PLAN)
    static void p32_plan_4AskingsAreTooMany() {
        BitWells x = Cases.aim(Cases.land("place;well 0 abcd;", "a", "b", "c", "d"), "a and b and c and d");
        plan(x, 0, 0, -1, -1);
        Cases.question(x, 3, "c and d");
        plan(x, 0, 0, 2, 0);
    }

    @Cases.Says(PLAN)
    static void p32_plan_byWhatWasSaid() {
        BitWells x = Cases.land("place;well 0 b;well 0 c;well 0 a;", "a", "b", "c");
        Cases.aim(x, "a and b or c and not a");
        plan(x, 0, 0, 1, 20);
        Cases.due("all on one day take three", 3, x.enough(0, 0));
    }

    @Cases.Says(PLAN_DAYS)
    static void p32_plan_atTheWorst() {
        // yes to a is enough; behind no the other well is 5 days off
        BitWells x = Cases.aim(Cases.land("place;place;road 0 1 5;well 0 a;well 1 b;", "a", "b"), "a or b");
        plan(x, 0, 0, 5, 0);
        x.ask(1, 1, 0);
        plan(x, 0, 0, 0, 0);
    }

    @Cases.Says(PLAN_DAYS)
    static void p32_plan_theGoalAsItIsOnTheLastDay() {
        BitWells x = Cases.aim(Cases.land("atoms 1;place;well 0 a;dry 0 3 3;", "a and not a"), "says 0 a");
        plan(x, 0, 2, 1, 0);
        plan(x, 0, 3, 0, -1);
        plan(x, 0, 1, 2, 0);
        plan(x, 0, 0, -1, -1);
        plan(x, 0, 4, -1, -1);
    }

    @Cases.Says({PLAN_FIRST, PLAN_HOW})
    static void p32_plan_ofTheseTheFirst() {
        plan(Cases.aim(Cases.land("place;well 0 b;well 0 a;well 0 a;", "b", "not a", "a"), "a"), 0, 0, 0, 11);
    }

    @Cases.Says({PLAN_FIRST, PLAN_HOW})
    static void p32_plan_theLastWellAndQuestion() {
        BitWells x = Cases.land("place;" + "well 0 b;".repeat(5) + "well 0 a;");
        Cases.question(x, 5, "a");
        plan(Cases.aim(x, "a"), 0, 0, 0, 55);
    }

    @Cases.Says(PLAN)
    static void p32_plan_ofASilentWell() {
        // what the dry well says on 5 tells nothing, but passes the day
        BitWells x = Cases.aim(Cases.land("place;well 0 a;dry 0 5 6;frost 363 364;", "b", "a"), "a");
        plan(x, 0, 4, 0, 1);
        plan(x, 0, 6, 1, 0);
        plan(x, 0, 5, 2, 0);
        plan(x, 0, 362, 0, 1);
        plan(x, 0, 363, -1, -1);
        plan(x, 0, 364, -1, -1);
    }

    @Cases.Says(PLAN)
    static void p32_plan_ofASilentWellWhereState0IsUnlike() {
        BitWells x = Cases.aim(Cases.land("atoms 2;place;well 0 ab;dry 0 0 9;", "a or b"), "a or b");
        plan(x, 0, 0, -1, -1);
        plan(x, 0, 8, 2, 0);
    }

    @Cases.Says({PLAN, PLAN_FIRST})
    static void p32_plan_byAYesInState0Alone() {
        BitWells x = Cases.aim(two("not a and not b", "a and b"), "a and b or not a and not b");
        plan(x, 0, 0, 1, 0);
    }

    @Cases.Says(PLAN)
    static void p32_plan_silentForFourDays() {
        BitWells x = Cases.aim(Cases.land("place;well 0 a;dry 0 5 8;", "a"), "a");
        plan(x, 0, 5, -1, -1);
        plan(x, 0, 6, -1, -1);
        plan(x, 0, 7, 2, 0);
    }

    @Cases.Says(PLAN)
    static void p32_plan_byTheLeastWay() {
        BitWells x = Cases.aim(Cases.land("place;place;place;road 0 1 9;road 0 2 1;road 2 1 1;well 1 a;", "a"), "a");
        plan(x, 0, 362, 2, 0);
        plan(x, 0, 363, -1, -1);
    }

    // ---- yes, alike

    @Cases.Says({YES, TEXTLESS})
    static void p33_yes_none() {
        BitWells x = Cases.land("atoms 1;place;well 0 a;dry 0 0 0;frost 364 364;");
        Cases.due("no texts", 0, x.yes(0, 5));
        Cases.question(x, 0, "a");
        Cases.due("in some", 0, x.yes(0, 5));
        Cases.question(x, 0, "a or not a");
        Cases.due("in all", 1, x.yes(0, 5));
        Cases.due("dry", 0, x.yes(0, 0));
        Cases.due("frost", 0, x.yes(0, 364));
    }

    @Cases.Says(YES)
    static void p33_yes_allSix() {
        BitWells x = two("a", "a", "a", "a", "a", "a");
        x.be(1);
        x.ask(0, 0, 0);
        Cases.due("all", 63, x.yes(0, 0));
    }

    @Cases.Says(YES)
    static void p33_yes_noneIsLeft() {
        BitWells x = none();
        Cases.due("all with a text", 0b1001, x.yes(0, 0));
        BitWells y = Cases.land("atoms 2;place;well 0 a;well 0 a;dry 1 3 3;", "a", "b");
        y.ask(0, 0, 0);
        y.be(1);
        y.ask(0, 0, 1);
        Cases.due("though it is silent, or does not know them", 3, y.yes(1, 3));
    }

    @Cases.Says({YES, TEXTLESS})
    static void p33_yes_aLiarToWhatHasNoText() {
        BitWells x = Cases.land("place;well 0 a;lies 0 1 0;");
        Cases.due("it has no text", 0, x.yes(0, 0));
        Cases.question(x, 2, "a and not a");
        Cases.due("it has one", 4, x.yes(0, 0));
    }

    @Cases.Says(ALIKE)
    static void p34_alike_allAndNone() {
        BitWells x = Cases.land("place;well 0 a;well 0 a;vein 0 1 0 0;vein 0 1 0 0;", "a", "not a", "a");
        Cases.due("itself", 64, x.alike(0, 0, 0));
        Cases.due("its like", 64, x.alike(0, 2, 364));
        Cases.due("its unlike", 0, x.alike(0, 1, 0));
        Cases.due("of two", 2, Cases.land("atoms 1;", "a").alike(0, 0, 0));
    }

    @Cases.Says({ALIKE, TEXTLESS})
    static void p34_alike_withoutTexts() {
        BitWells x = two("a and b");
        Cases.due("neither has one", 4, x.alike(4, 5, 0));
        Cases.due("one has one", 3, x.alike(0, 5, 0));
    }

    @Cases.Says(ALIKE)
    static void p34_alike_ofAllThoughNoneIsLeft() {
        Cases.due("a and b", 2, none().alike(0, 3, 0));
    }

    @Cases.Says({ALIKE, DAYS})
    static void p34_alike_onTheFirstAndTheLastDay() {
        BitWells x = Cases.land("atoms 1;place;well 0 a;lies 0 28 0;dry 0 5 5;", "a", "says 0 a");
        Cases.due("a lie on 0", 0, x.alike(0, 1, 0));
        Cases.due("true on 1", 2, x.alike(0, 1, 1));
        Cases.due("silent on 5", 1, x.alike(0, 1, 5));
        Cases.due("a lie on 364", 0, x.alike(0, 1, 364));
    }

    // ---- spare

    @Cases.Says(SPARE)
    static void p44_spare_withoutWells() {
        Cases.due("none", 0, Cases.aim(Cases.land("place;", "a"), "a").spare(0));
    }

    @Cases.Says(SPARE)
    static void p44_spare_all() {
        Cases.due("twins", 3, Cases.aim(Cases.land("place;well 0 a;well 0 a;", "a"), "a").spare(0));
        Cases.due("they tell nothing", 1, Cases.aim(two("a or not a"), "a").spare(0));
        Cases.due("no questions", 1, Cases.aim(two(), "a").spare(0));
        Cases.due("no goal", 1, two("a").spare(0));
        Cases.due("none is left", 1, none().spare(0));
        Cases.due("six", 63, Cases.aim(Cases.land("place;" + "well 0 a;".repeat(6), "a"), "a").spare(0));
    }

    @Cases.Says(SPARE)
    static void p44_spare_none() {
        Cases.due("one that is needed", 0, Cases.aim(two("a"), "a").spare(0));
        BitWells x = Cases.land("place;well 0 a;well 0 b;well 0 c;well 0 d;", "a", "b", "c", "d");
        Cases.due("four", 0, Cases.aim(x, "a and b and c and d").spare(0));
    }

    @Cases.Says(SPARE)
    static void p44_spare_aSilentOneAndItsTwin() {
        BitWells x = Cases.aim(Cases.land("place;well 0 a;well 0 a;dry 0 0 0;frost 364 364;", "a"), "a");
        Cases.due("one is dry on 0", 1, x.spare(0));
        Cases.due("both on 1", 3, x.spare(1));
        Cases.due("frost on 364", 3, x.spare(364));
    }

    @Cases.Says(SPARE)
    static void p44_spare_byThoseThatAreLeft() {
        BitWells x = Cases.aim(Cases.land("place;well 0 a;well 0 b;", "a", "b"), "a and b");
        x.be(2);
        x.ask(1, 1, 0);
        Cases.due("b is known", 2, x.spare(0));
    }

    // ---- odds

    private static void odds(BitWells x, int day, int above, int below) {
        Cases.due("above", above, x.odds(day, 0));
        Cases.due("below", below, x.odds(day, 1));
    }

    @Cases.Says({ODDS, ODDS_HOW})
    static void p51_odds_noneIsLeft() {
        odds(none(), 0, 0, 1);
    }

    @Cases.Says({ODDS, ODDS_HOW})
    static void p51_odds_neverSo() {
        odds(Cases.aim(two(), "a and not a"), 0, 0, 1);
        odds(two(), 364, 0, 1);
    }

    @Cases.Says({ODDS, ODDS_HOW})
    static void p51_odds_alwaysSo() {
        odds(Cases.aim(two(), "a or not a"), 0, 1, 1);
        BitWells x = Cases.aim(Cases.land("place;well 0 a;well 0 a;vein 0 1 0 0;vein 0 1 0 0;"), "a or not a");
        odds(x, 0, 1, 1);
    }

    @Cases.Says({ODDS, DAYS})
    static void p51_odds_onTheFirstAndTheLastDay() {
        BitWells x = Cases.aim(Cases.land("atoms 2;place;well 0 ab;lies 0 28 0;dry 0 363 363;"), "says 0 [a and b]");
        odds(x, 0, 3, 4);
        odds(x, 1, 1, 4);
        odds(x, 363, 0, 1);
        odds(x, 364, 3, 4);
    }

    @Cases.Says({ODDS, ODDS_HOW})
    static void p51_odds_inLeastTerms() {
        BitWells x = Cases.land("place;well 0 abcd;well 0 a;vein 0 1 0 0;vein 0 1 0 0;", "a or b");
        String[] goals = {"a", "a and b", "a or b", "a and b and c and d", "a or b or c or d", "a and b or a and c and d"};
        int[][] want = {{1, 2}, {1, 4}, {3, 4}, {1, 16}, {15, 16}, {5, 16}};
        for (int i = 0; i < goals.length; i++) {
            odds(Cases.aim(x, goals[i]), 0, want[i][0], want[i][1]);
        }
        x.be(1);
        x.ask(0, 0, 5);
        odds(Cases.aim(x, "a"), 0, 2, 3);
    }
}
