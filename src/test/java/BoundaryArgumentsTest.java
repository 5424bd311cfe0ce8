import java.util.List;

/**
 * Each argument that a promise bounds: too small and too large (by one, and by as much as a number can be) it is refused,
 * which is counted once by its reason and changes nothing; its least and its most are answered.
 */
public final class BoundaryArgumentsTest {
    private interface Use {
        long answer(BitWells x, int v);
    }

    private static final String[] DAYS = {"DAYS 0 to 364.", "IllegalArgumentException: no such DAY, STATE, QUESTION (so below)."};
    private static final String[] STATES = {"A STATE is a number: its lowest N bits tell which ATOMS are so (a the lowest), a bit "
            + "more for each VEIN which one lies", "IllegalArgumentException: no such DAY, STATE, QUESTION (so below)."};
    private static final String[] QUESTIONS = {"Likewise a QUESTION (0 to 5;",
        "IllegalArgumentException: no such DAY, STATE, QUESTION (so below)."};
    private static final String[] WELLS = {"NoSuchElementException: no such WELL, PLACE (so below, ahead of others).",
        "\"well\" P M (WELLS likewise, 6:"};
    private static final String[] PLACES = {"NoSuchElementException: no such WELL, PLACE (so below, ahead of others).",
        "\"place\" (PLACES, numbered from 0 on, 8 at most)"};
    private static final String[] WHAT = {"IllegalArgumentException: another what (so below)."};
    private static final String[] BUYERS = {"IllegalArgumentException: buyer (0 to 5; so below).", "a buyer (0 to 5) offers for a WELL"};
    private static final String[] LOST = {"CODE of words for so many lost marks L (0 to 3)"};
    private static final String[] FROST = {"its bits 16 to 19 below Q (0 to 16): frost more on it."};

    public static void main(String[] args) {
        cases().play();
    }

    static Cases cases() {
        Cases c = Cases.of(BoundaryArgumentsTest.class);
        texts(c);
        country(c);
        answers(c);
        askings(c);
        roadsAndSales(c);
        rest(c);
        free(c);
        ahead(c);
        nothing(c);
        return c;
    }

    // ---- ranges

    private static void texts(Cases c) {
        wrong(c, "p03_country_n", 0, 20, (x, v) -> x.country(v), "IllegalArgumentException: n is not 0 to the TAPE's bytes (it stays).");
        wrong(c, "p04_question_question", 0, 5, (x, v) -> x.question(v, 1), "IllegalArgumentException also: no such QUESTION.",
                "Likewise a QUESTION (0 to 5; n to 150): 1");
        wrong(c, "p04_question_n", 0, 20, (x, v) -> x.question(2, v), "Likewise a QUESTION (0 to 5; n to 150): 1",
                "IllegalArgumentException: n is not 0 to the TAPE's bytes (it stays).");
        wrong(c, "p05_goal_n", 0, 20, (x, v) -> x.goal(v), "Likewise the GOAL (n to 150): 1.");
    }

    private static void country(Cases c) {
        wrong(c, "p07_told_what", 0, 7, (x, v) -> x.told(v), WHAT);
        element(c, "p08_well_well", 2, (x, v) -> x.well(v, 0), WELLS);
        wrong(c, "p08_well_what", 0, 5, (x, v) -> x.well(1, v), WHAT);
        element(c, "p09_far_place", 3, (x, v) -> x.far(v, 0), PLACES);
        element(c, "p09_far_other", 3, (x, v) -> x.far(0, v), PLACES);
        element(c, "p10_lies_well", 2, (x, v) -> Cases.bit(x.lies(v, 0, 0)), WELLS);
        day(c, "p10_lies_day", (x, v) -> Cases.bit(x.lies(0, v, 0)));
        wrong(c, "p10_lies_state", 0, 7, (x, v) -> Cases.bit(x.lies(0, 0, v)), STATES);
        element(c, "p11_silent_well", 2, (x, v) -> Cases.bit(x.silent(v, 0)), WELLS);
        day(c, "p11_silent_day", (x, v) -> Cases.bit(x.silent(0, v)));
        question(c, "p12_states_question", (x, v) -> x.states(v, 0));
        day(c, "p12_states_day", (x, v) -> x.states(0, v));
        element(c, "p13_knows_well", 2, (x, v) -> Cases.bit(x.knows(v, 0)), WELLS);
        question(c, "p13_knows_question", (x, v) -> Cases.bit(x.knows(0, v)));
    }

    private static void answers(Cases c) {
        element(c, "p14_says_well", 2, (x, v) -> x.says(v, 0, 0, 0), WELLS);
        question(c, "p14_says_question", (x, v) -> x.says(0, v, 0, 0));
        day(c, "p14_says_day", (x, v) -> x.says(0, 0, v, 0));
        wrong(c, "p14_says_state", 0, 7, (x, v) -> x.says(0, 0, 0, v), STATES);
        element(c, "p15_ask_well", 2, (x, v) -> x.ask(v, 0, 0), WELLS);
        question(c, "p15_ask_question", (x, v) -> x.ask(0, v, 0));
        day(c, "p15_ask_day", (x, v) -> x.ask(0, 0, v));
        day(c, "p18_known_day", (x, v) -> x.known(v));
        wrong(c, "p19_vein_vein", 0, 0, (x, v) -> x.vein(v), "IllegalArgumentException: no such VEIN.");
        wrong(c, "p20_diary_what", 0, 3, (x, v) -> x.diary(0, v), WHAT);
        element(c, "p23_hear_well", 2, (x, v) -> x.hear(v, 0, 0, 0), WELLS);
        question(c, "p23_hear_question", (x, v) -> x.hear(0, v, 0, 0));
        day(c, "p23_hear_day", (x, v) -> x.hear(0, 0, v, 0));
        wrong(c, "p23_hear_said", 0, 2, (x, v) -> x.hear(0, 0, 0, v), "IllegalArgumentException: also said (0 to 2).");
        wrong(c, "p24_hearsay_what", 0, 1, (x, v) -> x.hearsay(v), WHAT);
    }

    private static void askings(Cases c) {
        day(c, "p27_parts_day", (x, v) -> x.parts(v, 0));
        wrong(c, "p27_parts_what", 0, 1, (x, v) -> x.parts(0, v), WHAT);
        day(c, "p28_enough_day", (x, v) -> x.enough(v, 0));
        wrong(c, "p28_enough_what", 0, 1, (x, v) -> x.enough(0, v), WHAT);
        element(c, "p29_trick_well", 2, (x, v) -> x.trick(v, 0), WELLS);
        day(c, "p29_trick_day", (x, v) -> x.trick(0, v));
        day(c, "p30_cant_day", (x, v) -> x.cant(v, 0));
        wrong(c, "p30_cant_what", 0, 1, (x, v) -> x.cant(0, v), WHAT);
        day(c, "p31_atoms_day", (x, v) -> x.atoms(v));
        element(c, "p32_plan_place", 3, (x, v) -> x.plan(v, 0, 0), PLACES);
        day(c, "p32_plan_day", (x, v) -> x.plan(0, v, 0));
        wrong(c, "p32_plan_what", 0, 1, (x, v) -> x.plan(0, 0, v), WHAT);
        element(c, "p33_yes_well", 2, (x, v) -> x.yes(v, 0), WELLS);
        day(c, "p33_yes_day", (x, v) -> x.yes(0, v));
        question(c, "p34_alike_question", (x, v) -> x.alike(v, 0, 0));
        question(c, "p34_alike_other", (x, v) -> x.alike(0, v, 0));
        day(c, "p34_alike_day", (x, v) -> x.alike(0, 1, v));
        day(c, "p44_spare_day", (x, v) -> x.spare(v));
        day(c, "p51_odds_day", (x, v) -> x.odds(v, 0));
        wrong(c, "p51_odds_what", 0, 1, (x, v) -> x.odds(0, v), WHAT);
    }

    private static void roadsAndSales(Cases c) {
        element(c, "p35_riders_place", 3, (x, v) -> x.riders(v, 1, 1), PLACES);
        wrong(c, "p35_riders_many", 1, 3, (x, v) -> x.riders(0, v, 1), "IllegalArgumentException: many, bits of no WELLS.",
                "RIDERS: so many (1 to 3) ride from a PLACE");
        wrong(c, "p35_riders_wells", 0, 7, (x, v) -> x.riders(0, 1, v), "IllegalArgumentException: many, bits of no WELLS.");
        wrong(c, "p36_offer_buyer", 0, 5, (x, v) -> x.offer(v, 0, 1), BUYERS);
        element(c, "p36_offer_well", 2, (x, v) -> x.offer(0, v, 1), WELLS);
        wrong(c, "p36_offer_price", 0, 99, (x, v) -> x.offer(0, 0, v), "A buyer's offer for a WELL (0 to 99): what it was.",
                "a buyer (0 to 5) offers for a WELL (0 to 99; 0 at first)");
        wrong(c, "p37_shared_buyer", 0, 5, (x, v) -> x.shared(v, 0), BUYERS);
        day(c, "p37_shared_day", (x, v) -> x.shared(0, v));
        day(c, "p38_sold_day", (x, v) -> x.sold(v, 0));
        wrong(c, "p38_sold_what", 0, 6, (x, v) -> x.sold(0, v), "what a buyer PAYS (1 and the buyer)",
                "IllegalArgumentException: another what (so below).");
        element(c, "p46_tour_place", 3, (x, v) -> x.tour(v, 1), PLACES);
        wrong(c, "p46_tour_wells", 0, 7, (x, v) -> x.tour(0, v), "IllegalArgumentException: many, bits of no WELLS.");
    }

    private static void rest(Cases c) {
        wrong(c, "p39_marks_words", 1, 256, (x, v) -> x.marks(v, 0), "MARKS for so many words (1 to 256) and L;");
        wrong(c, "p39_marks_lost", 0, 3, (x, v) -> x.marks(2, v), LOST);
        wrong(c, "p40_code_n", 1, 8, (x, v) -> x.code(v, 0, 0), "The i-th word of the CODE of n (1 to 8) marks and L;");
        wrong(c, "p40_code_lost", 0, 3, (x, v) -> x.code(4, v, 0), LOST);
        element(c, "p41_year_well", 2, (x, v) -> x.year(v, 1, 1), WELLS);
        wrong(c, "p41_year_q", 0, 16, (x, v) -> x.year(0, 1, v), FROST);
        wrong(c, "p42_drought_q", 0, 16, (x, v) -> x.drought(1, v), FROST);
        wrong(c, "p43_be_state", 0, 7, (x, v) -> x.be(v), STATES);
        element(c, "p45_parting_well", 2, (x, v) -> x.parting(v, 0), WELLS);
        question(c, "p45_parting_question", (x, v) -> x.parting(0, v));
        element(c, "p47_lying_well", 2, (x, v) -> x.lying(v, 0), WELLS);
        wrong(c, "p47_lying_what", 0, 1, (x, v) -> x.lying(0, v), WHAT);
        element(c, "p48_agree_well", 2, (x, v) -> x.agree(v, 0, 0), WELLS);
        element(c, "p48_agree_other", 2, (x, v) -> x.agree(0, v, 0), WELLS);
        question(c, "p48_agree_question", (x, v) -> x.agree(0, 1, v));
        day(c, "p49_learned_day", (x, v) -> x.learned(v));
        element(c, "p50_waits_well", 2, (x, v) -> x.waits(v, 0), WELLS);
        day(c, "p50_waits_day", (x, v) -> x.waits(0, v));
    }

    private static void day(Cases c, String name, Use use) {
        wrong(c, name, 0, Cases.LAST_DAY, use, DAYS);
    }

    private static void question(Cases c, String name, Use use) {
        wrong(c, name, 0, 5, use, QUESTIONS);
    }

    private static void element(Cases c, String name, int most, Use use, String... words) {
        range(c, name, 0, most, use, true, words);
    }

    private static void wrong(Cases c, String name, int least, int most, Use use, String... words) {
        range(c, name, least, most, use, false, words);
    }

    private static void range(Cases c, String name, int least, int most, Use use, boolean element, String... words) {
        c.with(name + "_tooSmall", words, () -> refuses(use, element, least - 1, Integer.MIN_VALUE));
        c.with(name + "_tooLarge", words, () -> refuses(use, element, most + 1, Integer.MAX_VALUE));
        c.with(name + "_least", words, () -> answers(use, least));
        c.with(name + "_most", words, () -> answers(use, most));
    }

    private static void refuses(Use use, boolean element, int... values) {
        for (int v : values) {
            BitWells x = Cases.rich();
            List<Long> before = Cases.digest(x);
            int elements = x.status(0);
            int arguments = x.status(1);
            Cases.refused("" + v, element ? Cases.NO_ELEMENT : Cases.WRONG, () -> use.answer(x, v));
            Cases.due("status 0 behind " + v, elements + (element ? 1 : 0), x.status(0));
            Cases.due("status 1 behind " + v, arguments + (element ? 0 : 1), x.status(1));
            Cases.same("" + v, before, Cases.digest(x));
        }
    }

    private static void answers(Use use, int v) {
        BitWells x = Cases.rich();
        int refusals = x.status(0) + x.status(1);
        use.answer(x, v);
        Cases.due("refusals behind " + v, refusals, x.status(0) + x.status(1));
    }

    // ---- arguments of which none is refused

    private static void free(Cases c) {
        any(c, "p02_feed_anyNumbers", (x, v) -> x.feed(v, v, v, v, v), 40, "Twenty bytes come on the TAPE");
        any(c, "p20_diary_anyI", (x, v) -> x.diary(v, 0), -1, "NONE: none such.");
        any(c, "p40_code_anyI", (x, v) -> x.code(8, 0, v), -1, "NONE: none such.");
        any(c, "p41_year_anySeed", (x, v) -> x.year(0, v, 16), 0, "the SEED (32 bits)");
        any(c, "p42_drought_anySeed", (x, v) -> x.drought(v, 16), 365, "the SEED (32 bits)");
        any(c, "p55_status_anyWhat", (x, v) -> x.status(v), -1, "NONE for others. (No IMAGE keeps it.)");
        any(c, "p56_count_anyWhat", (x, v) -> x.count(v), -1, "0 IMAGES, 1 bytes of the TAPE; NONE for others.");
    }

    private static void any(Cases c, String name, Use use, long want, String... words) {
        c.with(name, words, () -> {
            for (int v : new int[] {Integer.MIN_VALUE, -1, Integer.MAX_VALUE}) {
                BitWells x = Cases.rich();
                int refusals = x.status(0) + x.status(1);
                Cases.due("" + v, want, use.answer(x, v));
                Cases.due("refusals behind " + v, refusals, x.status(0) + x.status(1));
            }
        });
    }

    // ---- no such WELL, PLACE is ahead of whatever else is wrong

    private static void ahead(Cases c) {
        first(c, "p08_well", (x, v) -> x.well(v, 6));
        first(c, "p10_lies", (x, v) -> Cases.bit(x.lies(v, 365, 8)));
        first(c, "p11_silent", (x, v) -> Cases.bit(x.silent(v, 365)));
        first(c, "p13_knows", (x, v) -> Cases.bit(x.knows(v, 6)));
        first(c, "p14_says", (x, v) -> x.says(v, 6, 365, 8));
        first(c, "p15_ask", (x, v) -> x.ask(v, 6, 365));
        first(c, "p23_hear", (x, v) -> x.hear(v, 6, 365, 3));
        first(c, "p29_trick", (x, v) -> x.trick(v, 365));
        first(c, "p32_plan", (x, v) -> x.plan(v, 365, 2));
        first(c, "p33_yes", (x, v) -> x.yes(v, 365));
        first(c, "p35_riders", (x, v) -> x.riders(v, 0, 8));
        first(c, "p36_offer", (x, v) -> x.offer(6, v, 100));
        first(c, "p41_year", (x, v) -> x.year(v, 0, 17));
        first(c, "p45_parting", (x, v) -> x.parting(v, 6));
        first(c, "p46_tour", (x, v) -> x.tour(v, 8));
        first(c, "p47_lying", (x, v) -> x.lying(v, 2));
        first(c, "p48_agree", (x, v) -> x.agree(v, 0, 6));
        first(c, "p48_agree_other", (x, v) -> x.agree(0, v, 6));
        first(c, "p50_waits", (x, v) -> x.waits(v, 365));
    }

    private static void first(Cases c, String name, Use use) {
        c.with(name + "_noElementAheadOfOthers", WELLS, () -> refuses(use, true, -1, 9));
    }

    // ---- another what is refused though there is nothing to tell

    private static void nothing(Cases c) {
        empty(c, "p20_diary", 4, (x, v) -> x.diary(0, v));
        empty(c, "p24_hearsay", 2, (x, v) -> x.hearsay(v));
        empty(c, "p27_parts", 2, (x, v) -> x.parts(0, v));
        empty(c, "p28_enough", 2, (x, v) -> x.enough(0, v));
        empty(c, "p30_cant", 2, (x, v) -> x.cant(0, v));
        empty(c, "p38_sold", 7, (x, v) -> x.sold(0, v));
        empty(c, "p51_odds", 2, (x, v) -> x.odds(0, v));
    }

    private static void empty(Cases c, String name, int past, Use use) {
        c.with(name + "_whatRefusedInANewObject", WHAT, () -> {
            BitWells x = new BitWells();
            Cases.refused("what " + past, Cases.WRONG, () -> use.answer(x, past));
            Cases.refused("what -1", Cases.WRONG, () -> use.answer(x, -1));
        });
    }

    // ---- refusals are ahead of what a full object answers

    @Cases.Says("IllegalArgumentException: no such DAY, STATE, QUESTION (so below).")
    static void p15_ask_refusedThoughTheDiaryIsFull() {
        BitWells x = Cases.land("place;well 0 a;");
        for (int day = 0; day < 60; day++) {
            x.ask(0, 0, day);
        }
        Cases.refused("no well", Cases.NO_ELEMENT, () -> x.ask(1, 0, 0));
        Cases.refused("no question", Cases.WRONG, () -> x.ask(0, 6, 0));
        Cases.refused("no day", Cases.WRONG, () -> x.ask(0, 0, 365));
    }

    @Cases.Says("IllegalArgumentException: also said (0 to 2).")
    static void p23_hear_refusedThoughThereAre10() {
        BitWells x = Cases.land("place;well 0 a;");
        for (int i = 0; i < 10; i++) {
            x.hear(0, 0, 0, 0);
        }
        Cases.refused("no well", Cases.NO_ELEMENT, () -> x.hear(1, 0, 0, 0));
        Cases.refused("no question", Cases.WRONG, () -> x.hear(0, -1, 0, 0));
        Cases.refused("no day", Cases.WRONG, () -> x.hear(0, 0, -1, 0));
        Cases.refused("said 3", Cases.WRONG, () -> x.hear(0, 0, 0, 3));
    }

    // ---- what there is none of

    @Cases.Says("NoSuchElementException: no such WELL, PLACE (so below, ahead of others).")
    static void p08_well_noneInANewObject() {
        BitWells x = new BitWells();
        Cases.refused("well 0", Cases.NO_ELEMENT, () -> x.well(0, 0));
    }

    @Cases.Says("NoSuchElementException: no such WELL, PLACE (so below, ahead of others).")
    static void p09_far_noPlaceInANewObject() {
        BitWells x = new BitWells();
        Cases.refused("place 0", Cases.NO_ELEMENT, () -> x.far(0, 0));
    }

    @Cases.Says("IllegalArgumentException: no such VEIN.")
    static void p19_vein_noneWithoutVeins() {
        BitWells x = Cases.land("place;well 0 a;well 0 a;");
        Cases.refused("vein 0", Cases.WRONG, () -> x.vein(0));
    }

    @Cases.Says("IllegalArgumentException: no such VEIN.")
    static void p19_vein_twoOfTwo() {
        BitWells x = Cases.land("place;well 0 a;well 0 a;vein 0 1 0 9;vein 1 0 0 9;");
        Cases.due("vein 1", 2, x.vein(1));
        Cases.refused("vein 2", Cases.WRONG, () -> x.vein(2));
    }

    @Cases.Says("IllegalArgumentException: many, bits of no WELLS.")
    static void p35_riders_bitsWithoutWells() {
        BitWells x = Cases.land("place;");
        Cases.due("no bits", 0, x.riders(0, 1, 0));
        Cases.refused("bit 0", Cases.WRONG, () -> x.riders(0, 1, 1));
    }

    @Cases.Says("IllegalArgumentException: many, bits of no WELLS.")
    static void p46_tour_bitsWithoutWells() {
        BitWells x = Cases.land("place;");
        Cases.due("no bits", 0, x.tour(0, 0));
        Cases.refused("bit 0", Cases.WRONG, () -> x.tour(0, 1));
    }

    @Cases.Says({"\"well\" P M (WELLS likewise, 6:", "\"place\" (PLACES, numbered from 0 on, 8 at most)"})
    static void p08_well_allSixAreThere() {
        BitWells x = Cases.land("place;".repeat(8) + "well 7 a;".repeat(6));
        Cases.due("well 5 is at place 7", 7, x.well(5, 0));
        Cases.refused("well 6", Cases.NO_ELEMENT, () -> x.well(6, 0));
        Cases.due("place 7", 0, x.far(7, 7));
        Cases.refused("place 8", Cases.NO_ELEMENT, () -> x.far(8, 7));
    }

    @Cases.Says("How many calls were refused: 0 NoSuchElementException, 1 IllegalArgumentException")
    static void p55_status_countsEachRefusalOnce() {
        BitWells x = new BitWells();
        for (int i = 1; i <= 5; i++) {
            Cases.refused("no well", Cases.NO_ELEMENT, () -> x.well(0, 9));
            Cases.due("elements", i, x.status(0));
            Cases.due("arguments", i - 1, x.status(1));
            Cases.refused("no what", Cases.WRONG, () -> x.told(8));
            Cases.due("arguments", i, x.status(1));
        }
    }
}
