/** The boundary cases of the country and its wells, and of their years: promises 1, 7 to 14, 41, 42, 45, 47 to 50. */
public final class BoundaryWellsTest {
    private static final String CLAUSELESS = "`BitWells()`: A COUNTRY without CLAUSES.";
    private static final String TOLD = "0 N, 1 PLACES, 2 WELLS, 3 VEINS, 4 how many STATES, 5 the STATE that IS, 6 answers in the "
            + "DIARY, 7 HEARSAY.";
    private static final String OF_A_WELL = "Of a WELL: 0 P, 1 ATOMS it knows (bits), 2 D (0: it never lies by itself), 3 R, 4 F, "
            + "5 T of dry (NONE).";
    private static final String FAR = "FAR: DAYS by the least way; NONE: there is none.";
    private static final String LIES = "A WELL LIES on a DAY in a STATE, if one of these is so and not the other: its own lies, a "
            + "VEIN's (of two VEINS each counts for itself: an even number of all these is none).";
    private static final String SILENT = "It is SILENT on a DAY, if it is dry, or there is frost.";
    private static final String SAYS = "\"says\" K B: WELL K is not SILENT, KNOWS B, and, asked B, would say yes.";
    private static final String KNOWS = "A WELL KNOWS C, if it knows each ATOM in it, and each says in it is of itself.";
    private static final String PERHAPS = "Asked C it says PERHAPS (2), if it is SILENT, or does not KNOW C; else yes (1), if C is so "
            + "and it does not LIE, or C is not so and it LIES; else no (0).";
    private static final String TEXTLESS = "(Without a text a QUESTION, the GOAL are never so.)";
    private static final String AS_BITS = "STATES in which a QUESTION is so on a DAY, as bits (STATE 0 the lowest).";
    private static final String DAYS = "DAYS 0 to 364.";
    private static final String TRUE_TEXT = "a or not a";

    public static void main(String[] args) {
        cases().play();
    }

    static Cases cases() {
        return Cases.of(BoundaryWellsTest.class);
    }

    // ---- a new object

    @Cases.Says(CLAUSELESS)
    static void p01_new_hasNothingButFourAtoms() {
        BitWells x = new BitWells();
        int[] want = {4, 0, 0, 0, 16, 0, 0, 0};
        for (int what = 0; what < 8; what++) {
            Cases.due("told " + what, want[what], x.told(what));
        }
    }

    @Cases.Says(CLAUSELESS)
    static void p01_new_all16StatesAreLeft() {
        BitWells x = new BitWells();
        Cases.due("left", 0xFFFF, x.left());
        Cases.due("many", 16, x.leftMany());
        Cases.due("trusted", 0xFFFF, x.trusted());
    }

    @Cases.Says(CLAUSELESS)
    static void p01_new_hasNoTexts() {
        BitWells x = new BitWells();
        for (int q = 0; q < 6; q++) {
            Cases.due("question " + q, 0, x.states(q, 0));
        }
        Cases.due("goal", 0, x.known(0));
        Cases.due("fault", -1, x.fault());
        Cases.due("tape", 0, x.count(1));
    }

    @Cases.Says(CLAUSELESS)
    static void p01_new_hasNoAnswersHearsayImagesRefusals() {
        BitWells x = new BitWells();
        Cases.due("torn", 0, x.tear(0));
        Cases.due("deaf", 0, x.deaf());
        Cases.due("restored", -1, x.restore());
        Cases.due("images", 0, x.count(0));
        Cases.due("refused", 0, x.status(0));
        Cases.due("refused", 0, x.status(1));
    }

    @Cases.Says(CLAUSELESS)
    static void p01_new_isAsTheCountryOfNoBytes() {
        BitWells x = new BitWells();
        BitWells y = Cases.rich();
        y.country(0);
        Cases.same("a country of no bytes", Cases.digest(x), Cases.digest(y));
    }

    @Cases.Says("public static final int NONE = -1;")
    static void p01_NONE() {
        Cases.due("NONE", -1, BitWells.NONE);
    }

    // ---- told, well, far

    @Cases.Says(TOLD)
    static void p07_told_theLeastOfAll() {
        BitWells x = Cases.land("atoms 1;");
        int[] want = {1, 0, 0, 0, 2, 0, 0, 0};
        for (int what = 0; what < 8; what++) {
            Cases.due("told " + what, want[what], x.told(what));
        }
    }

    @Cases.Says(TOLD)
    static void p07_told_theMostOfAll() {
        BitWells x = Cases.land("place;".repeat(8) + "well 0 a;".repeat(6) + "vein 0 1 0 9;vein 2 3 0 9;is 63;");
        for (int day = 0; day < 61; day++) {
            x.ask(0, 0, day);
            x.hear(0, 0, 0, 0);
        }
        int[] want = {4, 8, 6, 2, 64, 63, 60, 10};
        for (int what = 0; what < 8; what++) {
            Cases.due("told " + what, want[what], x.told(what));
        }
    }

    @Cases.Says(OF_A_WELL)
    static void p08_well_neverLiesByItself() {
        BitWells x = Cases.land("place;well 0 a;well 0 a;lies 0 1 0;vein 0 1 0 364;");
        Cases.due("the one that does", 1, x.well(0, 2));
        Cases.due("the one that lies by a vein alone", 0, x.well(1, 2));
    }

    @Cases.Says(OF_A_WELL)
    static void p08_well_DAndRAtTheirMost() {
        BitWells x = Cases.land("place;well 0 a;lies 0 30 29;");
        Cases.due("D", 30, x.well(0, 2));
        Cases.due("R", 29, x.well(0, 3));
    }

    @Cases.Says(OF_A_WELL)
    static void p08_well_neverDryThoughThereIsFrost() {
        BitWells x = Cases.land("place;well 0 a;well 0 a;dry 1 0 0;frost 3 4;");
        Cases.due("F", -1, x.well(0, 4));
        Cases.due("T", -1, x.well(0, 5));
        Cases.due("F of the one that is dry on 0", 0, x.well(1, 4));
        Cases.due("its T", 0, x.well(1, 5));
    }

    @Cases.Says(OF_A_WELL)
    static void p08_well_dryAllYear() {
        BitWells x = Cases.land("place;well 0 a;dry 0 0 364;");
        Cases.due("F", 0, x.well(0, 4));
        Cases.due("T", 364, x.well(0, 5));
    }

    @Cases.Says(OF_A_WELL)
    static void p08_well_atomsAsBits() {
        BitWells x = Cases.land("place;well 0 a;well 0 b;well 0 c;well 0 d;well 0 ad;well 0 cadb;");
        int[] want = {1, 2, 4, 8, 9, 15};
        for (int w = 0; w < 6; w++) {
            Cases.due("well " + w, want[w], x.well(w, 1));
        }
    }

    @Cases.Says(FAR)
    static void p09_far_whereOneIs() {
        BitWells x = Cases.land("place;place;road 0 1 1;place;");
        Cases.due("with a road", 0, x.far(0, 0));
        Cases.due("without", 0, x.far(2, 2));
    }

    @Cases.Says(FAR)
    static void p09_far_noWay() {
        BitWells x = Cases.land("place;place;place;place;road 0 1 1;road 2 3 1;");
        Cases.due("there", -1, x.far(0, 2));
        Cases.due("back", -1, x.far(3, 1));
        Cases.due("near", 1, x.far(3, 2));
    }

    @Cases.Says(FAR)
    static void p09_far_theFarthest() {
        StringBuilder text = new StringBuilder("place;".repeat(8));
        for (int place = 0; place < 7; place++) {
            text.append("road ").append(place).append(' ').append(place + 1).append(" 9;");
        }
        BitWells x = Cases.land(text.toString());
        Cases.due("from end to end", 63, x.far(0, 7));
        Cases.due("back", 63, x.far(7, 0));
    }

    @Cases.Says(FAR)
    static void p09_far_byManyShortOnes() {
        BitWells x = Cases.land("place;".repeat(8) + "road 0 7 9;road 0 6 1;road 6 5 1;road 5 4 1;road 4 3 1;road 3 2 1;road 2 1 1;"
                + "road 1 7 1;");
        Cases.due("by seven", 7, x.far(0, 7));
        Cases.due("by the road back", 7, x.far(7, 0));
    }

    // ---- lies, silent

    @Cases.Says(LIES)
    static void p10_lies_oddNumbersOfThemAlone() {
        // well 0 lies by itself on odd days, in state 0 by both veins: on 0 to 9 by the one, on 4 to 13 by the other
        BitWells x = Cases.land("atoms 1;place;well 0 a;well 0 a;lies 0 2 1;vein 0 1 0 9;vein 0 1 4 13;");
        Cases.so("none of them", false, x.lies(0, 14, 0));
        Cases.so("by itself", true, x.lies(0, 15, 0));
        Cases.so("by the first vein", true, x.lies(0, 2, 0));
        Cases.so("by the second vein", true, x.lies(0, 12, 0));
        Cases.so("by itself and the first vein", false, x.lies(0, 3, 0));
        Cases.so("by itself and the second vein", false, x.lies(0, 13, 0));
        Cases.so("by both veins", false, x.lies(0, 4, 0));
        Cases.so("by all three", true, x.lies(0, 5, 0));
    }

    @Cases.Says(LIES)
    static void p10_lies_oddNumbersOfThemAloneAsTheOtherOfVeins() {
        // as above, but well 0 is the other one of both veins, which lies in state 6
        BitWells x = Cases.land("atoms 1;place;well 0 a;well 0 a;lies 0 2 1;vein 1 0 0 9;vein 1 0 4 13;");
        boolean[] want = {true, false, true, false, false, true, false, true, false, true, true, false, true, false, false, true};
        for (int day = 0; day < want.length; day++) {
            Cases.so("on " + day, want[day], x.lies(0, day, 6));
            Cases.so("on " + day + " in state 0", day % 2 == 1, x.lies(0, day, 0));
        }
    }

    @Cases.Says(LIES)
    static void p10_lies_justOneOfAVein() {
        BitWells x = Cases.land("atoms 1;place;well 0 a;well 0 a;well 0 a;vein 2 0 5 6;");
        for (int state = 0; state < 4; state++) {
            for (int day = 4; day < 8; day++) {
                boolean on = day == 5 || day == 6;
                Cases.so("the first told", on && state < 2, x.lies(2, day, state));
                Cases.so("the other", on && state > 1, x.lies(0, day, state));
                Cases.so("one of none", false, x.lies(1, day, state));
            }
        }
    }

    @Cases.Says({LIES, SILENT})
    static void p10_lies_thoughItIsSilent() {
        BitWells x = Cases.land("place;well 0 a;lies 0 1 0;dry 0 3 3;frost 4 4;");
        Cases.so("dry", true, x.lies(0, 3, 0));
        Cases.so("frost", true, x.lies(0, 4, 0));
    }

    @Cases.Says({LIES, DAYS})
    static void p10_lies_onTheFirstAndTheLastDay() {
        BitWells x = Cases.land("place;well 0 a;lies 0 14 0;");
        Cases.so("on 0", true, x.lies(0, 0, 0));
        Cases.so("on 364", true, x.lies(0, 364, 0));
        Cases.so("on 363", false, x.lies(0, 363, 0));
    }

    @Cases.Says(LIES)
    static void p10_lies_inState63() {
        BitWells x = Cases.land("place;well 0 a;well 0 a;vein 0 1 0 9;vein 1 0 0 4;");
        Cases.so("by the first vein alone", true, x.lies(1, 9, 63));
        Cases.so("the other one by the second", true, x.lies(0, 0, 63));
        Cases.so("not on 9", false, x.lies(0, 9, 63));
    }

    @Cases.Says(SILENT)
    static void p11_silent_dryFrostBothNone() {
        BitWells x = Cases.land("place;well 0 a;dry 0 3 6;frost 5 8;");
        boolean[] want = {false, false, false, true, true, true, true, true, true, false};
        for (int day = 0; day < want.length; day++) {
            Cases.so("on " + day, want[day], x.silent(0, day));
        }
    }

    @Cases.Says({SILENT, DAYS})
    static void p11_silent_onTheFirstAndTheLastDay() {
        BitWells x = Cases.land("place;well 0 a;well 0 a;dry 0 0 0;frost 364 364;");
        Cases.so("dry on 0", true, x.silent(0, 0));
        Cases.so("another is not", false, x.silent(1, 0));
        Cases.so("not on 1", false, x.silent(0, 1));
        Cases.so("not on 363", false, x.silent(0, 363));
        Cases.so("frost on 364", true, x.silent(1, 364));
    }

    @Cases.Says(SILENT)
    static void p11_silent_neverWithoutClauses() {
        BitWells x = Cases.land("place;well 0 a;");
        for (int day = 0; day < 365; day++) {
            Cases.so("on " + day, false, x.silent(0, day));
        }
    }

    // ---- states, knows, says

    @Cases.Says(AS_BITS)
    static void p12_states_ofTwo() {
        BitWells x = Cases.land("atoms 1;", TRUE_TEXT, "a", "not a", "a and not a");
        long[] want = {3, 2, 1, 0};
        for (int q = 0; q < 4; q++) {
            Cases.due("question " + q, want[q], x.states(q, 0));
        }
    }

    @Cases.Says(AS_BITS)
    static void p12_states_of64() {
        BitWells x = Cases.land("place;well 0 a;well 0 a;vein 0 1 0 9;vein 0 1 0 9;", TRUE_TEXT, "a and b and c and d", "not a");
        Cases.due("all", -1L, x.states(0, 0));
        Cases.due("state 63 is one", 0x8000_8000_8000_8000L, x.states(1, 0));
        Cases.due("state 0 is one", 0x5555_5555_5555_5555L, x.states(2, 0));
    }

    @Cases.Says(TEXTLESS)
    static void p12_states_withoutAText() {
        BitWells x = Cases.land("place;well 0 a;lies 0 1 0;", "a");
        Cases.due("question 1", 0, x.states(1, 0));
        Cases.due("question 5", 0, x.states(5, 364));
    }

    @Cases.Says({SAYS, DAYS})
    static void p12_states_saysOnTheFirstAndTheLastDay() {
        BitWells x = Cases.land("atoms 1;place;well 0 a;lies 0 28 0;dry 0 363 363;", "says 0 a");
        Cases.due("a lie on 0", 1, x.states(0, 0));
        Cases.due("true on 1", 2, x.states(0, 1));
        Cases.due("silent on 363", 0, x.states(0, 363));
        Cases.due("a lie on 364", 1, x.states(0, 364));
    }

    @Cases.Says(SAYS)
    static void p12_states_saysOfASilentWellIsNeverSo() {
        BitWells x = Cases.land("atoms 1;place;well 0 a;dry 0 3 3;frost 5 5;", "says 0 a", "not says 0 a", "says 0 not a");
        for (int day : new int[] {3, 5}) {
            Cases.due("says", 0, x.states(0, day));
            Cases.due("not says", 3, x.states(1, day));
            Cases.due("says not", 0, x.states(2, day));
        }
        Cases.due("says, on 4", 2, x.states(0, 4));
    }

    @Cases.Says(SAYS)
    static void p12_states_saysOfAWellThatDoesNotKnowIsNeverSo() {
        BitWells x = Cases.land("atoms 2;place;well 0 a;well 0 b;lies 0 1 0;", "says 0 b", "not says 0 b", "says 0 [a or b]",
                "says 0 says 1 b", "says 0 says 1 a", "says 0 a");
        Cases.due("another atom", 0, x.states(0, 0));
        Cases.due("not that", 15, x.states(1, 0));
        Cases.due("one of two", 0, x.states(2, 0));
        Cases.due("another's says", 0, x.states(3, 0));
        Cases.due("another's says of its own", 0, x.states(4, 0));
        Cases.due("its own", 5, x.states(5, 0));
    }

    @Cases.Says(KNOWS)
    static void p13_knows_withoutAText() {
        BitWells x = Cases.land("place;well 0 a;well 0 d;");
        Cases.so("question 0", true, x.knows(0, 0));
        Cases.so("question 5", true, x.knows(1, 5));
    }

    @Cases.Says(KNOWS)
    static void p13_knows_eachAtom() {
        BitWells x = Cases.land("place;well 0 abcd;well 0 abc;well 0 d;", "a and b and c and d", "d or d", "a or not a");
        Cases.so("all four", true, x.knows(0, 0));
        Cases.so("three of four", false, x.knows(1, 0));
        Cases.so("one of four", false, x.knows(2, 0));
        Cases.so("its one", true, x.knows(2, 1));
        Cases.so("one that is always so", false, x.knows(2, 2));
    }

    @Cases.Says(KNOWS)
    static void p13_knows_atomsOnceOrTwiceHoweverJoined() {
        String[] joined = {"a and b", "a or b", "if a then b", "if b then a", "[not b] and a", "says 0 a or b"};
        String[] twice = {"a and a", "a or a", "if a then a", "not a and not a", "[a]", "says 0 a and says 0 a"};
        BitWells x = Cases.land("place;well 0 a;well 0 b;well 0 c;", joined);
        for (int q = 0; q < 6; q++) {
            for (int w = 0; w < 3; w++) {
                Cases.so("well " + w + ": " + joined[q], false, x.knows(w, q));
            }
        }
        Cases.ask(x, twice);
        for (int q = 0; q < 6; q++) {
            Cases.so("the one: " + twice[q], true, x.knows(0, q));
            Cases.so("another: " + twice[q], false, x.knows(1, q));
        }
    }

    @Cases.Says(KNOWS)
    static void p13_knows_saysOfItselfAlone() {
        BitWells x = Cases.land("place;well 0 ab;well 0 ab;", "says 0 a", "says 0 says 0 b", "says 0 says 1 a", "a or says 1 b",
                "says 0 a and says 1 a");
        boolean[] first = {true, true, false, false, false};
        boolean[] other = {false, false, false, true, false};
        for (int q = 0; q < 5; q++) {
            Cases.so("well 0, question " + q, first[q], x.knows(0, q));
            Cases.so("well 1, question " + q, other[q], x.knows(1, q));
        }
    }

    @Cases.Says(KNOWS)
    static void p13_knows_anAtomInItsOwnSays() {
        BitWells x = Cases.land("place;well 0 a;", "says 0 b", "says 0 a");
        Cases.so("b", false, x.knows(0, 0));
        Cases.so("a", true, x.knows(0, 1));
    }

    @Cases.Says(KNOWS)
    static void p13_knows_thoughItIsAlwaysSilent() {
        Cases.so("a", true, Cases.land("place;well 0 a;frost 0 364;", "a").knows(0, 0));
    }

    @Cases.Says(PERHAPS)
    static void p14_says_eachOfThree() {
        BitWells x = Cases.land("atoms 2;place;well 0 a;lies 0 2 1;dry 0 4 4;frost 5 5;", "a", "b");
        Cases.due("so, no lie", 1, x.says(0, 0, 0, 1));
        Cases.due("not so, no lie", 0, x.says(0, 0, 0, 0));
        Cases.due("so, a lie", 0, x.says(0, 0, 1, 1));
        Cases.due("not so, a lie", 1, x.says(0, 0, 1, 0));
        Cases.due("dry", 2, x.says(0, 0, 4, 1));
        Cases.due("frost on a day it lies", 2, x.says(0, 0, 5, 1));
        Cases.due("not known", 2, x.says(0, 1, 0, 3));
        Cases.due("not known on a day it lies", 2, x.says(0, 1, 1, 3));
    }

    @Cases.Says({TEXTLESS, PERHAPS})
    static void p14_says_withoutAText() {
        BitWells x = Cases.land("place;well 0 a;lies 0 2 1;dry 0 4 4;");
        Cases.due("no", 0, x.says(0, 0, 0, 15));
        Cases.due("yes, as it lies", 1, x.says(0, 0, 1, 15));
        Cases.due("perhaps, as it is silent", 2, x.says(0, 0, 4, 15));
    }

    @Cases.Says({PERHAPS, DAYS})
    static void p14_says_inTheFirstAndTheLastStateAndDay() {
        BitWells x = Cases.land("place;well 0 d;well 0 d;vein 0 1 0 0;vein 0 1 364 364;", "d");
        Cases.due("0 lies in state 0 on 0", 1, x.says(0, 0, 0, 0));
        Cases.due("1 does not", 0, x.says(1, 0, 0, 0));
        Cases.due("on 1 neither", 0, x.says(0, 0, 1, 0));
        Cases.due("0 does not in state 63", 1, x.says(0, 0, 364, 63));
        Cases.due("1 does", 0, x.says(1, 0, 364, 63));
        Cases.due("on 363 neither", 1, x.says(1, 0, 363, 63));
    }

    // ---- years

    private static final String YEAR = "A YEAR by a SEED: on each DAY in order the SEED (32 bits) becomes itself times 1,103,515,245, "
            + "and 12,345 (it wraps); its bits 16 to 19 below Q (0 to 16): frost more on it.";
    private static final String NOT_SILENT = "On how many DAYS of a YEAR by a SEED a WELL is not SILENT.";
    private static final String DROUGHT = "The longest row of DAYS of it on which no WELL answers (0 without WELLS).";

    /** Days of frost, by numbers that don't wrap. */
    private static boolean[] frosts(int seed, int q) {
        java.math.BigInteger two32 = java.math.BigInteger.ONE.shiftLeft(32);
        java.math.BigInteger now = java.math.BigInteger.valueOf(seed).mod(two32);
        boolean[] frost = new boolean[365];
        for (int day = 0; day < 365; day++) {
            now = now.multiply(java.math.BigInteger.valueOf(1_103_515_245)).add(java.math.BigInteger.valueOf(12_345)).mod(two32);
            frost[day] = now.shiftRight(16).intValue() % 16 < q;
        }
        return frost;
    }

    private static int open(boolean[] frost) {
        int many = 0;
        for (boolean f : frost) {
            many += f ? 0 : 1;
        }
        return many;
    }

    private static int longest(boolean[] frost) {
        int most = 0;
        int row = 0;
        for (boolean f : frost) {
            row = f ? row + 1 : 0;
            most = Math.max(most, row);
        }
        return most;
    }

    private static final int[] SEEDS = {0, 1, -1, Integer.MAX_VALUE, Integer.MIN_VALUE, 77, -1_000_000_007};

    @Cases.Says({YEAR, NOT_SILENT})
    static void p41_year_theSeedWraps() {
        BitWells x = Cases.land("place;well 0 a;");
        for (int seed : SEEDS) {
            for (int q : new int[] {1, 8, 15}) {
                Cases.due("seed " + seed + ", Q " + q, open(frosts(seed, q)), x.year(0, seed, q));
            }
        }
    }

    @Cases.Says({YEAR, NOT_SILENT})
    static void p41_year_Q0IsNoFrostMore() {
        BitWells x = Cases.land("place;well 0 a;well 0 a;dry 1 3 9;frost 360 364;");
        for (int seed : SEEDS) {
            Cases.due("frost of the country", 360, x.year(0, seed, 0));
            Cases.due("and dry", 353, x.year(1, seed, 0));
        }
    }

    @Cases.Says({YEAR, NOT_SILENT})
    static void p41_year_Q16IsFrostAllYear() {
        BitWells x = Cases.land("place;well 0 a;");
        for (int seed : SEEDS) {
            Cases.due("seed " + seed, 0, x.year(0, seed, 16));
        }
    }

    @Cases.Says(NOT_SILENT)
    static void p41_year_silentAllTheSame() {
        BitWells x = Cases.land("place;well 0 a;well 0 a;dry 0 0 364;");
        Cases.due("dry all year", 0, x.year(0, 5, 0));
        Cases.due("another", 365, x.year(1, 5, 0));
    }

    @Cases.Says({YEAR, DROUGHT})
    static void p42_drought_theSeedWraps() {
        BitWells x = Cases.land("place;well 0 a;");
        for (int seed : SEEDS) {
            for (int q : new int[] {1, 8, 15}) {
                Cases.due("seed " + seed + ", Q " + q, longest(frosts(seed, q)), x.drought(seed, q));
            }
        }
    }

    @Cases.Says(DROUGHT)
    static void p42_drought_0WithoutWells() {
        BitWells x = Cases.land("place;frost 0 364;");
        Cases.due("all frost", 0, x.drought(1, 16));
        Cases.due("a new object", 0, new BitWells().drought(1, 16));
    }

    @Cases.Says(DROUGHT)
    static void p42_drought_0And365() {
        BitWells x = Cases.land("place;well 0 a;");
        Cases.due("no frost", 0, x.drought(1, 0));
        Cases.due("all frost", 365, x.drought(1, 16));
        Cases.due("dry all year", 365, Cases.land("place;well 0 a;dry 0 0 364;").drought(1, 0));
    }

    @Cases.Says(DROUGHT)
    static void p42_drought_atTheYearsBeginningAndEnd() {
        Cases.due("from 0 on", 4, Cases.land("place;well 0 a;dry 0 0 3;frost 10 12;").drought(1, 0));
        Cases.due("to 364", 5, Cases.land("place;well 0 a;dry 0 0 3;frost 360 364;").drought(1, 0));
    }

    @Cases.Says(DROUGHT)
    static void p42_drought_allWellsAtOnce() {
        BitWells x = Cases.land("place;well 0 a;well 0 a;dry 0 0 99;dry 1 99 200;");
        Cases.due("the one day", 1, x.drought(1, 0));
        Cases.due("none", 0, Cases.land("place;well 0 a;well 0 a;dry 0 0 99;dry 1 100 200;").drought(1, 0));
    }

    // ---- days on which

    private static final String PARTING = "PARTING: on how many DAYS (0 to 364) STATES that are LEFT don't all make a WELL say one "
            + "thing to a QUESTION.";
    private static final String LYING = "LYING: on how many DAYS a WELL LIES in the STATE that IS (SILENT or not); the first one.";
    private static final String AGREE = "AGREE: on how many DAYS two WELLS say the same to a QUESTION in the STATE that IS, neither "
            + "PERHAPS.";
    private static final String LEARNED = "LEARNED: the WELL, not SILENT on a DAY, that KNOWS most of the QUESTIONS that have a text, "
            + "of these the first.";
    private static final String WAITS = "WAITS: how many DAYS from one on a WELL is SILENT till it is not.";

    @Cases.Says(PARTING)
    static void p45_parting_allYearAndNever() {
        BitWells x = Cases.land("place;well 0 a;well 0 b;", "a", TRUE_TEXT);
        Cases.due("365", 365, x.parting(0, 0));
        Cases.due("what it does not know", 0, x.parting(1, 0));
        Cases.due("what is always so", 0, x.parting(0, 1));
        Cases.due("without a text", 0, x.parting(0, 5));
    }

    @Cases.Says(PARTING)
    static void p45_parting_theFirstAndTheLastDayCount() {
        Cases.due("on 0 and 364", 2, Cases.land("place;well 0 a;dry 0 1 363;", "a").parting(0, 0));
        Cases.due("silent on 0 and 364", 363, Cases.land("place;well 0 a;dry 0 0 0;frost 364 364;", "a").parting(0, 0));
    }

    @Cases.Says(PARTING)
    static void p45_parting_whenOneStateOrNoneIsLeft() {
        BitWells x = Cases.land("atoms 1;place;well 0 a;", "a");
        x.ask(0, 0, 0);
        Cases.due("one left", 0, x.parting(0, 0));
        x.be(1);
        x.ask(0, 0, 1);
        Cases.due("none left", 0, x.leftMany());
        Cases.due("none left", 0, x.parting(0, 0));
    }

    @Cases.Says(PARTING)
    static void p45_parting_aVeinPartsWhatHasNoText() {
        BitWells x = Cases.land("place;well 0 a;well 0 a;vein 0 1 364 364;");
        Cases.due("on 364 alone", 1, x.parting(0, 0));
    }

    @Cases.Says({LYING, "LYING: 0 how many DAYS, 1 the first (NONE)."})
    static void p47_lying_never() {
        BitWells x = Cases.land("place;well 0 a;");
        Cases.due("days", 0, x.lying(0, 0));
        Cases.due("first", -1, x.lying(0, 1));
    }

    @Cases.Says({LYING, "LYING: 0 how many DAYS, 1 the first (NONE)."})
    static void p47_lying_allYear() {
        BitWells x = Cases.land("place;well 0 a;lies 0 1 0;frost 0 364;");
        Cases.due("days, silent all the same", 365, x.lying(0, 0));
        Cases.due("first", 0, x.lying(0, 1));
    }

    @Cases.Says({LYING, "LYING: 0 how many DAYS, 1 the first (NONE)."})
    static void p47_lying_onTheLastDayAlone() {
        BitWells x = Cases.land("place;well 0 a;well 0 a;vein 0 1 364 364;");
        Cases.due("days", 1, x.lying(0, 0));
        Cases.due("first", 364, x.lying(0, 1));
        Cases.due("the other in this state", -1, x.lying(1, 1));
        x.be(16);
        Cases.due("in another state", 364, x.lying(1, 1));
        Cases.due("days", 0, x.lying(0, 0));
    }

    @Cases.Says(AGREE)
    static void p48_agree_allYearAndNever() {
        BitWells x = Cases.land("place;well 0 a;well 0 a;well 0 a;lies 2 1 0;", "a");
        Cases.due("with itself", 365, x.agree(0, 0, 0));
        Cases.due("with another", 365, x.agree(0, 1, 0));
        Cases.due("with a liar", 0, x.agree(0, 2, 0));
        Cases.due("a liar with itself", 365, x.agree(2, 2, 0));
    }

    @Cases.Says(AGREE)
    static void p48_agree_neitherPerhaps() {
        BitWells x = Cases.land("place;well 0 a;well 0 a;well 0 b;well 0 b;dry 0 0 0;dry 1 364 364;frost 9 9;", "a");
        Cases.due("but on 0, 9, 364", 362, x.agree(0, 1, 0));
        Cases.due("but on 0 and 9", 363, x.agree(0, 0, 0));
        Cases.due("the other does not know it", 0, x.agree(0, 2, 0));
        Cases.due("neither knows it", 0, x.agree(2, 3, 0));
    }

    @Cases.Says({AGREE, TEXTLESS})
    static void p48_agree_withoutAText() {
        BitWells x = Cases.land("place;well 0 a;well 0 b;lies 1 5 4;");
        Cases.due("but where one lies", 292, x.agree(0, 1, 3));
    }

    @Cases.Says({LEARNED, "LEARNED; NONE: all are SILENT."})
    static void p49_learned_noneAnswers() {
        Cases.due("no wells", -1, new BitWells().learned(0));
        BitWells x = Cases.land("place;well 0 a;well 0 a;dry 0 3 5;dry 1 5 7;frost 9 9;", "a");
        Cases.due("all dry", -1, x.learned(5));
        Cases.due("frost", -1, x.learned(9));
        Cases.due("one dry", 1, x.learned(4));
        Cases.due("the other dry", 0, x.learned(6));
    }

    @Cases.Says({LEARNED, DAYS})
    static void p49_learned_onTheFirstAndTheLastDay() {
        BitWells x = Cases.land("place;well 0 a;well 0 a;dry 0 0 0;dry 1 364 364;frost 363 363;", "a");
        Cases.due("on 0", 1, x.learned(0));
        Cases.due("on 1", 0, x.learned(1));
        Cases.due("on 363", -1, x.learned(363));
        Cases.due("on 364", 0, x.learned(364));
    }

    @Cases.Says(LEARNED)
    static void p49_learned_ofThemTheFirst() {
        BitWells x = Cases.land("place;well 0 b;well 0 a;well 0 a;dry 1 5 5;", "a");
        Cases.due("the first that knows it", 1, x.learned(0));
        Cases.due("the next, if that is silent", 2, x.learned(5));
    }

    @Cases.Says(LEARNED)
    static void p49_learned_withoutTextsTheFirst() {
        BitWells x = Cases.land("place;well 0 a;well 0 abcd;dry 0 5 5;");
        Cases.due("none of none", 0, x.learned(0));
        Cases.due("the next, if that is silent", 1, x.learned(5));
    }

    @Cases.Says(LEARNED)
    static void p49_learned_whoKnowsNoneOfThem() {
        BitWells x = Cases.land("place;well 0 a;well 0 b;", "c", "d");
        Cases.due("none of two", 0, x.learned(0));
    }

    @Cases.Says(LEARNED)
    static void p49_learned_allSixCount() {
        BitWells x = Cases.land("place;well 0 a;well 0 b;", "a", "a", "b", "b", "b", "a or a");
        Cases.due("three each", 0, x.learned(0));
        Cases.question(x, 5, "b");
        Cases.due("two and four", 1, x.learned(0));
    }

    @Cases.Says({WAITS, "WAITS (0: it is not SILENT on that DAY); NONE: till DAY 364."})
    static void p50_waits_0() {
        BitWells x = Cases.land("place;well 0 a;dry 0 5 6;");
        Cases.due("ahead", 0, x.waits(0, 4));
        Cases.due("behind", 0, x.waits(0, 7));
        Cases.due("on 364", 0, x.waits(0, 364));
    }

    @Cases.Says({WAITS, "WAITS (0: it is not SILENT on that DAY); NONE: till DAY 364."})
    static void p50_waits_1() {
        BitWells x = Cases.land("place;well 0 a;dry 0 5 5;frost 363 363;");
        Cases.due("dry", 1, x.waits(0, 5));
        Cases.due("till 364", 1, x.waits(0, 363));
    }

    @Cases.Says({WAITS, "WAITS (0: it is not SILENT on that DAY); NONE: till DAY 364."})
    static void p50_waits_NONE() {
        BitWells x = Cases.land("place;well 0 a;well 0 a;dry 0 0 364;dry 1 364 364;");
        Cases.due("all year", -1, x.waits(0, 0));
        Cases.due("from 364 on", -1, x.waits(1, 364));
    }

    @Cases.Says({WAITS, "WAITS (0: it is not SILENT on that DAY); NONE: till DAY 364."})
    static void p50_waits_364() {
        BitWells x = Cases.land("place;well 0 a;dry 0 0 363;");
        Cases.due("from 0 on", 364, x.waits(0, 0));
        Cases.due("from 363 on", 1, x.waits(0, 363));
    }

    @Cases.Says(WAITS)
    static void p50_waits_dryAndFrostInOneRow() {
        BitWells x = Cases.land("place;well 0 a;well 0 a;dry 0 3 5;frost 6 8;dry 1 9 9;");
        Cases.due("both", 6, x.waits(0, 3));
        Cases.due("another", 4, x.waits(1, 6));
        Cases.due("not yet", 0, x.waits(1, 3));
    }
}
