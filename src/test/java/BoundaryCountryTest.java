import java.util.List;

/** The boundary cases of the tape and of a country's text: promises 2, 3 and 6, with the terms and faults that they use. */
public final class BoundaryCountryTest {
    private static final String CLAUSES = "A COUNTRY is a text of up to 600 bytes: { CLAUSE \";\" }, at most 60.";
    private static final String ATOMS = "\"atoms\" N (1 to 4; 4 without; ahead of all others, once)";
    private static final String PLACE = "\"place\" (PLACES, numbered from 0 on, 8 at most)";
    private static final String ROAD = "\"road\" A B H (both ways, H DAYS, 1 to 9; A not B; the last counts)";
    private static final String WELL = "\"well\" P M (WELLS likewise, 6: at PLACE P; M: the ATOMS it knows, a WORD of letters a, b, .. "
            + "(N of them), none twice)";
    private static final String LIES = "\"lies\" K D R (WELL K lies on DAYS that leave R by D; D 1 to 30, R less than D; the last "
            + "counts)";
    private static final String DRY = "\"dry\" K F T (from DAY F to T, 0 to 364, T no less than F; the last counts)";
    private static final String VEIN = "\"vein\" K J F T (VEINS likewise, 2: on DAYS F to T just one of WELLS K and J, unlike, lies by "
            + "it, always the same one)";
    private static final String FROST = "\"frost\" F T (the last counts)";
    private static final String IS = "\"is\" X (0 to 63; the STATE that IS, of those there are as the text ends; 0 without; the last "
            + "counts)";
    private static final String STATE = "A STATE is a number: its lowest N bits tell which ATOMS are so (a the lowest), a bit more for "
            + "each VEIN which one lies (0 the first told, 1 the other).";
    private static final String TOKENS = "Numbers: digits, as many as stand there; WORDS: small letters, as many as stand there; "
            + "blanks (32) may stand ahead of all these, and at the end.";
    private static final String FIRST = "FAULTS, the first from the left, at its first byte:";
    private static final String FAULT_1 = "1 what can't stand there (at the length, if the text ends too early);";
    private static final String FAULT_2 = "2 a number that is none such, M with another letter or one twice, or none (at its first byte; "
            + "no letter at all is 1);";
    private static final String FAULT_3 = "3 a CLAUSE, PLACE, WELL or VEIN too many (at its word)";
    private static final String FAULT_4 = "4 atoms too late, or again (at the word); X above the STATES there are (at the length); of "
            + "one the least.";
    private static final String NEW = "are the COUNTRY (no QUESTIONS, GOAL, DIARY, HEARSAY, offers, IMAGES): how many WELLS;";
    private static final String STAYS = "or the FAULT less 10 (all but the TAPE stays).";

    public static void main(String[] args) {
        cases().play();
    }

    static Cases cases() {
        Cases c = Cases.of(BoundaryCountryTest.class);
        whatCannotStand(c);
        endsTooEarly(c);
        numbers(c);
        letters(c);
        tooMany(c);
        states(c);
        several(c);
        emptied(c);
        kept(c);
        return c;
    }

    // ---- faults: by name, kind, place and text

    private static void fault(Cases c, String name, int kind, int place, String text, String... words) {
        c.with("p03_fault" + kind + "_" + name, words, () -> faulty(text, kind, place));
    }

    private static void faulty(String text, int kind, int place) {
        BitWells x = new BitWells();
        Cases.due("country of '" + text + "'", kind - 10, Cases.country(x, text));
        Cases.due("the place of its fault", place, x.fault());
    }

    private static void whatCannotStand(Cases c) {
        fault(c, "unknownWord", 1, 0, "foo;", FAULT_1);
        fault(c, "wordCutShort", 1, 0, "plac", FAULT_1);
        fault(c, "wordTooLong", 1, 0, "places;", FAULT_1, TOKENS);
        fault(c, "wordsRunTogether", 1, 6, "place;placeplace;", FAULT_1, TOKENS);
        fault(c, "capital", 1, 0, "Place;", FAULT_1);
        fault(c, "byteOf0", 1, 6, "place;\0", FAULT_1);
        fault(c, "byteOf255", 1, 6, "place;" + (char) 255, FAULT_1);
        fault(c, "byteBelowSmallA", 1, 0, "`;", FAULT_1, TOKENS);
        fault(c, "byteAboveSmallZ", 1, 0, "{;", FAULT_1, TOKENS);
        fault(c, "byteBelow0", 1, 6, "atoms /;", FAULT_1, TOKENS);
        fault(c, "byteAbove9", 1, 6, "atoms :;", FAULT_1, TOKENS);
        fault(c, "tabIsNoBlank", 1, 6, "place;\tplace;", FAULT_1, TOKENS);
        fault(c, "lineEndIsNoBlank", 1, 5, "place\n;", FAULT_1, TOKENS);
        fault(c, "semicolonAlone", 1, 0, ";", FAULT_1, CLAUSES);
        fault(c, "semicolonTwice", 1, 6, "place;;", FAULT_1, CLAUSES);
        fault(c, "noSemicolonBetween", 1, 6, "place place;", FAULT_1, CLAUSES);
        fault(c, "numberForAWord", 1, 2, "  7;", FAULT_1);
        fault(c, "placeWithANumber", 1, 6, "place 0;", FAULT_1, PLACE);
        fault(c, "numberTooMany", 1, 8, "atoms 2 2;", FAULT_1, ATOMS);
        fault(c, "noNumberForN", 1, 6, "atoms ;", FAULT_1, ATOMS);
        fault(c, "letterForN", 1, 6, "atoms b;", FAULT_1, ATOMS);
        fault(c, "numberBelow0", 1, 6, "atoms -1;", FAULT_1, TOKENS);
        fault(c, "noLetterForM", 1, 13, "place;well 0 ;", FAULT_1, FAULT_2);
        fault(c, "numberForM", 1, 13, "place;well 0 0;", FAULT_1, FAULT_2);
        fault(c, "capitalForM", 1, 13, "place;well 0 A;", FAULT_1, FAULT_2);
        fault(c, "capitalBehindM", 1, 14, "place;well 0 aB;", FAULT_1, TOKENS);
        fault(c, "twoWordsForM", 1, 15, "place;well 0 a b;", FAULT_1, WELL);
        fault(c, "noHOfARoad", 1, 20, "place;place;road 0 1;", FAULT_1, ROAD);
        fault(c, "noROfLies", 1, 24, "place;well 0 a;lies 0 2 ;", FAULT_1, LIES);
        fault(c, "noTOfDry", 1, 22, "place;well 0 a;dry 0 2;", FAULT_1, DRY);
        fault(c, "noTOfAVein", 1, 34, "place;well 0 a;well 0 a;vein 0 1 2;", FAULT_1, VEIN);
        fault(c, "noTOfFrost", 1, 7, "frost 2;", FAULT_1, FROST);
        fault(c, "noXOfIs", 1, 2, "is;", FAULT_1, IS);
    }

    /** Each clause cut off behind each of its words and numbers, with blanks behind that, and without. */
    private static void endsTooEarly(Cases c) {
        String[] clauses = {"atoms 3 ;", "place ;", "road 0 1 9 ;", "well 0 ab ;", "lies 0 3 2 ;", "dry 0 3 4 ;", "vein 0 1 3 4 ;",
            "frost 3 4 ;", "is 3 ;"};
        for (String clause : clauses) {
            String ahead = clause.startsWith("atoms") ? "" : "place;place;well 0 a;well 1 b;";
            c.with("p03_fault1_endsTooEarlyIn_" + clause.substring(0, clause.indexOf(' ')), new String[] {FAULT_1}, () -> {
                for (int at = clause.indexOf(' '); at >= 0; at = clause.indexOf(' ', at + 1)) {
                    String text = ahead + clause.substring(0, at);
                    faulty(text, 1, text.length());
                    faulty(text + "   ", 1, text.length() + 3);
                }
                Cases.due("the whole clause", ahead.isEmpty() ? 0 : clause.startsWith("well") ? 3 : 2,
                        Cases.country(new BitWells(), ahead + clause));
            });
        }
    }

    private static void numbers(Cases c) {
        fault(c, "atoms0", 2, 6, "atoms 0;", FAULT_2, ATOMS);
        fault(c, "atoms5", 2, 6, "atoms 5;", FAULT_2, ATOMS);
        fault(c, "numberThatWrapsTo1", 2, 6, "atoms 4294967297;", FAULT_2, TOKENS);
        fault(c, "numberThatWrapsALongTo1", 2, 6, "atoms 18446744073709551617;", FAULT_2, TOKENS);
        fault(c, "numberOf300Digits", 2, 3, "is " + "9".repeat(300) + ";", FAULT_2, TOKENS);
        fault(c, "roadFromNoPlace", 2, 17, "place;place;road 2 0 1;", FAULT_2, ROAD);
        fault(c, "roadToNoPlace", 2, 19, "place;place;road 0 2 1;", FAULT_2, ROAD);
        fault(c, "roadWithoutPlaces", 2, 5, "road 0 1 1;", FAULT_2, ROAD);
        fault(c, "roadToAPlaceToldLater", 2, 13, "place;road 0 1 1;place;", FAULT_2, ROAD);
        fault(c, "roadToItself", 2, 19, "place;place;road 1 1 1;", FAULT_2, ROAD);
        fault(c, "roadOf0Days", 2, 21, "place;place;road 0 1 0;", FAULT_2, ROAD);
        fault(c, "roadOf10Days", 2, 21, "place;place;road 0 1 10;", FAULT_2, ROAD);
        fault(c, "wellAtNoPlace", 2, 11, "place;well 1 a;", FAULT_2, WELL);
        fault(c, "wellWithoutPlaces", 2, 5, "well 0 a;", FAULT_2, WELL);
        fault(c, "liesOfNoWell", 2, 20, "place;well 0 a;lies 1 2 1;", FAULT_2, LIES);
        fault(c, "liesWithoutWells", 2, 5, "lies 0 2 1;", FAULT_2, LIES);
        fault(c, "liesBy0", 2, 22, "place;well 0 a;lies 0 0 0;", FAULT_2, LIES);
        fault(c, "liesBy31", 2, 22, "place;well 0 a;lies 0 31 0;", FAULT_2, LIES);
        fault(c, "liesRAsMuchAsD", 2, 25, "place;well 0 a;lies 0 30 30;", FAULT_2, LIES);
        fault(c, "liesR1ByD1", 2, 24, "place;well 0 a;lies 0 1 1;", FAULT_2, LIES);
        fault(c, "dryOfNoWell", 2, 19, "place;well 0 a;dry 1 0 0;", FAULT_2, DRY);
        fault(c, "dryWithoutWells", 2, 4, "dry 0 0 0;", FAULT_2, DRY);
        fault(c, "dryFrom365", 2, 21, "place;well 0 a;dry 0 365 365;", FAULT_2, DRY);
        fault(c, "dryTo365", 2, 25, "place;well 0 a;dry 0 364 365;", FAULT_2, DRY);
        fault(c, "dryToLessThanFrom", 2, 23, "place;well 0 a;dry 0 9 8;", FAULT_2, DRY);
        fault(c, "veinOfNoWell", 2, 29, "place;well 0 a;well 0 a;vein 2 0 0 0;", FAULT_2, VEIN);
        fault(c, "veinOfNoOtherWell", 2, 31, "place;well 0 a;well 0 a;vein 0 2 0 0;", FAULT_2, VEIN);
        fault(c, "veinWithoutWells", 2, 5, "vein 0 1 0 0;", FAULT_2, VEIN);
        fault(c, "veinOfOneWellTwice", 2, 31, "place;well 0 a;well 0 a;vein 1 1 0 0;", FAULT_2, VEIN);
        fault(c, "veinFrom365", 2, 33, "place;well 0 a;well 0 a;vein 0 1 365 365;", FAULT_2, VEIN);
        fault(c, "veinTo365", 2, 35, "place;well 0 a;well 0 a;vein 0 1 0 365;", FAULT_2, VEIN);
        fault(c, "veinToLessThanFrom", 2, 35, "place;well 0 a;well 0 a;vein 0 1 3 2;", FAULT_2, VEIN);
        fault(c, "frostFrom365", 2, 6, "frost 365 365;", FAULT_2, FROST);
        fault(c, "frostTo365", 2, 8, "frost 0 365;", FAULT_2, FROST);
        fault(c, "frostToLessThanFrom", 2, 8, "frost 1 0;", FAULT_2, FROST);
        fault(c, "is64", 2, 3, "is 64;", FAULT_2, IS);
    }

    private static void letters(Cases c) {
        fault(c, "letterPastD", 2, 13, "place;well 0 e;", FAULT_2, WELL);
        fault(c, "letterPastN", 2, 21, "atoms 1;place;well 0 b;", FAULT_2, WELL);
        fault(c, "letterPastNAtTheEnd", 2, 21, "atoms 3;place;well 0 abcd;", FAULT_2, WELL);
        fault(c, "letterZ", 2, 13, "place;well 0 az;", FAULT_2, WELL);
        fault(c, "letterTwice", 2, 13, "place;well 0 aa;", FAULT_2, WELL);
        fault(c, "letterTwiceNotAtOnce", 2, 13, "place;well 0 abcda;", FAULT_2, WELL);
        fault(c, "letterAtItsFirstByte", 2, 16, "place;well 0    abcde;", FAULT_2, WELL);
    }

    private static void tooMany(Cases c) {
        String wells = "place;" + "well 0 a;".repeat(6);
        fault(c, "clause61", 3, 300, "is 0;".repeat(61), FAULT_3, CLAUSES);
        fault(c, "clause61AtItsWord", 3, 303, "is 0;".repeat(60) + "   frost 9 1;", FAULT_3, CLAUSES);
        fault(c, "place9", 3, 48, "place;".repeat(9), FAULT_3, PLACE);
        fault(c, "place9AtItsWord", 3, 49, "place;".repeat(8) + " place 7", FAULT_3, PLACE);
        fault(c, "well7", 3, 60, wells + "well 0 a;", FAULT_3, WELL);
        fault(c, "well7AtItsWord", 3, 62, wells + "  well 9 zz;", FAULT_3, WELL);
        fault(c, "vein3", 3, 50, "place;well 0 a;well 0 a;" + "vein 0 1 0 0;".repeat(3), FAULT_3, VEIN);
        fault(c, "vein3AtItsWord", 3, 51, "place;well 0 a;well 0 a;vein 0 1 0 0;vein 1 0 0 0; vein", FAULT_3, VEIN);
    }

    private static void states(Cases c) {
        fault(c, "atomsAgain", 4, 8, "atoms 2;atoms 2;", FAULT_4, ATOMS);
        fault(c, "atomsAgainAtTheWord", 4, 9, "atoms 2; atoms 9", FAULT_4, ATOMS);
        fault(c, "atomsBehindAPlace", 4, 6, "place;atoms 2;", FAULT_4, ATOMS);
        fault(c, "atomsBehindIs", 4, 5, "is 0;atoms 2;", FAULT_4, ATOMS);
        fault(c, "is16Of16", 4, 6, "is 16;", FAULT_4, IS);
        fault(c, "is16Of16BlanksBehind", 4, 9, "is 16;   ", FAULT_4, IS);
        fault(c, "is2Of2", 4, 13, "atoms 1;is 2;", FAULT_4, IS);
        fault(c, "is63Of16", 4, 6, "is 63;", FAULT_4, IS);
        fault(c, "is4Of4WithAVein", 4, 50, "atoms 1;place;well 0 a;well 0 a;vein 0 1 0 0;is 4;", FAULT_4, IS);
        fault(c, "is32Of32WithAVein", 4, 43, "is 32;place;well 0 a;well 0 a;vein 0 1 0 0;", FAULT_4, IS);
        fault(c, "theLastIsCounts", 4, 11, "is 3;is 16;", FAULT_4, IS);
    }

    /** Of several faults the one that is first from the left, and at one place the least. */
    private static void several(Cases c) {
        fault(c, "aheadOfALaterWord", 2, 6, "atoms 9;foo;", FIRST);
        fault(c, "aheadOfALaterNumber", 1, 6, "place;foo;atoms 9;", FIRST);
        fault(c, "aheadOfXAtTheLength", 1, 6, "is 16;foo;", FIRST);
        fault(c, "aheadOfXThoughLater", 2, 9, "is 16;is 64;", FIRST);
        fault(c, "ofOneTheLeast_tooEarlyAndX", 1, 11, "is 16;place", FAULT_4);
        fault(c, "ofOneTheLeast_clause61Unknown", 1, 300, "is 0;".repeat(60) + "foo;", FAULT_4);
        fault(c, "ofOneTheLeast_clause61Semicolon", 1, 300, "is 0;".repeat(60) + ";", FAULT_4);
        fault(c, "ofOneTheLeast_clause61Atoms", 3, 300, "is 0;".repeat(60) + "atoms 1;", FAULT_4);
        fault(c, "ofOneTheLeast_clause61Number", 1, 300, "is 0;".repeat(60) + "7", FAULT_4);
    }

    // ---- texts that have no fault

    private static BitWells plain(String text, int wells) {
        BitWells x = new BitWells();
        Cases.due("country of '" + text + "'", wells, Cases.country(x, text));
        Cases.due("its fault", -1, x.fault());
        return x;
    }

    @Cases.Says(CLAUSES)
    static void p03_country_of0Bytes() {
        Cases.due("clauses", 0, plain("", 0).told(1));
    }

    @Cases.Says(TOKENS)
    static void p03_country_ofBlanksAlone() {
        plain(" ".repeat(20), 0);
    }

    @Cases.Says(CLAUSES)
    static void p03_country_of600Bytes() {
        BitWells x = plain("place;".repeat(8) + " ".repeat(546) + "is 15;", 0);
        Cases.due("the last clause counts", 15, x.told(5));
    }

    @Cases.Says(CLAUSES)
    static void p03_country_of60Clauses() {
        Cases.due("the 60th counts", 9, plain("is 0;".repeat(59) + "is 9;  ", 0).told(5));
    }

    @Cases.Says(ATOMS)
    static void p03_atoms_1() {
        BitWells x = plain("atoms 1;place;well 0 a;", 1);
        Cases.due("N", 1, x.told(0));
        Cases.due("states", 2, x.told(4));
    }

    @Cases.Says(ATOMS)
    static void p03_atoms_4() {
        BitWells x = plain("atoms 4;place;well 0 d;", 1);
        Cases.due("N", 4, x.told(0));
        Cases.due("states", 16, x.told(4));
    }

    @Cases.Says(ATOMS)
    static void p03_atoms_4Without() {
        BitWells x = plain("place;well 0 d;", 1);
        Cases.due("N", 4, x.told(0));
        Cases.due("states", 16, x.told(4));
    }

    @Cases.Says(PLACE)
    static void p03_place_8NumberedFrom0() {
        BitWells x = plain("place;".repeat(8) + "road 7 0 3;", 0);
        Cases.due("places", 8, x.told(1));
        Cases.due("from 0 to 7", 3, x.far(0, 7));
    }

    @Cases.Says(ROAD)
    static void p03_road_bothWays() {
        BitWells x = plain("place;place;road 0 1 9;", 0);
        Cases.due("there, in 9 days", 9, x.far(0, 1));
        Cases.due("back", 9, x.far(1, 0));
    }

    @Cases.Says(ROAD)
    static void p03_road_of1Day() {
        Cases.due("there", 1, plain("place;place;road 1 0 1;", 0).far(0, 1));
    }

    @Cases.Says(ROAD)
    static void p03_road_theLastCountsThoughItIsLonger() {
        BitWells x = plain("place;place;road 0 1 2;road 0 1 9;", 0);
        Cases.due("there", 9, x.far(0, 1));
        Cases.due("back", 9, x.far(1, 0));
    }

    @Cases.Says(ROAD)
    static void p03_road_theLastCountsToldTheOtherWay() {
        BitWells x = plain("place;place;road 0 1 2;road 1 0 7;", 0);
        Cases.due("there", 7, x.far(0, 1));
        Cases.due("back", 7, x.far(1, 0));
    }

    @Cases.Says(WELL)
    static void p03_well_6NumberedFrom0() {
        BitWells x = plain("place;" + "well 0 a;".repeat(5) + "well 0 b;", 6);
        Cases.due("wells", 6, x.told(2));
        Cases.due("the first", 1, x.well(0, 1));
        Cases.due("the last", 2, x.well(5, 1));
    }

    @Cases.Says(WELL)
    static void p03_well_ofOneLetterAndOfAll() {
        BitWells x = plain("place;well 0 d;well 0 dcba;", 2);
        Cases.due("d", 8, x.well(0, 1));
        Cases.due("all, in any order", 15, x.well(1, 1));
    }

    @Cases.Says(WELL)
    static void p03_well_ofTheOneLetterThereIs() {
        Cases.due("a", 1, plain("atoms 1;place;well 0 a;", 1).well(0, 1));
    }

    @Cases.Says(WELL)
    static void p03_well_atTheLastPlace() {
        Cases.due("at 7", 7, plain("place;".repeat(8) + "well 7 a;", 1).well(0, 0));
    }

    @Cases.Says(LIES)
    static void p03_lies_onAllDays() {
        Cases.due("D 1, R 0", 365, plain("place;well 0 a;lies 0 1 0;", 1).lying(0, 0));
    }

    @Cases.Says(LIES)
    static void p03_lies_D30R29() {
        BitWells x = plain("place;well 0 a;lies 0 30 29;", 1);
        Cases.so("on 28", false, x.lies(0, 28, 0));
        Cases.so("on 29", true, x.lies(0, 29, 0));
        Cases.so("on 30", false, x.lies(0, 30, 0));
        Cases.so("on 359", true, x.lies(0, 359, 0));
        Cases.due("days", 12, x.lying(0, 0));
    }

    @Cases.Says(LIES)
    static void p03_lies_R0() {
        BitWells x = plain("place;well 0 a;lies 0 7 0;", 1);
        Cases.so("on 0", true, x.lies(0, 0, 0));
        Cases.so("on 1", false, x.lies(0, 1, 0));
        Cases.so("on 364", true, x.lies(0, 364, 0));
    }

    @Cases.Says(LIES)
    static void p03_lies_theLastCounts() {
        BitWells x = plain("place;well 0 a;lies 0 2 1;lies 0 3 0;", 1);
        Cases.due("D", 3, x.well(0, 2));
        Cases.due("R", 0, x.well(0, 3));
        Cases.so("on 1", false, x.lies(0, 1, 0));
        Cases.so("on 3", true, x.lies(0, 3, 0));
    }

    @Cases.Says(LIES)
    static void p03_lies_ofOneWellAlone() {
        BitWells x = plain("place;well 0 a;well 0 a;well 0 a;lies 1 1 0;", 3);
        Cases.so("the one ahead", false, x.lies(0, 0, 0));
        Cases.so("the one", true, x.lies(1, 0, 0));
        Cases.so("the one behind", false, x.lies(2, 0, 0));
    }

    @Cases.Says(DRY)
    static void p03_dry_onOneDay() {
        BitWells x = plain("place;well 0 a;dry 0 7 7;", 1);
        Cases.so("ahead", false, x.silent(0, 6));
        Cases.so("then", true, x.silent(0, 7));
        Cases.so("behind", false, x.silent(0, 8));
    }

    @Cases.Says(DRY)
    static void p03_dry_from0To364() {
        BitWells x = plain("place;well 0 a;well 0 a;dry 0 0 364;", 2);
        Cases.so("on 0", true, x.silent(0, 0));
        Cases.so("on 364", true, x.silent(0, 364));
        Cases.so("another well", false, x.silent(1, 364));
    }

    @Cases.Says(DRY)
    static void p03_dry_onTheFirstAndOnTheLastDay() {
        BitWells x = plain("place;well 0 a;well 0 a;dry 0 0 0;dry 1 364 364;", 2);
        Cases.so("0 on 0", true, x.silent(0, 0));
        Cases.so("0 on 1", false, x.silent(0, 1));
        Cases.so("1 on 363", false, x.silent(1, 363));
        Cases.so("1 on 364", true, x.silent(1, 364));
    }

    @Cases.Says(DRY)
    static void p03_dry_theLastCounts() {
        BitWells x = plain("place;well 0 a;dry 0 0 364;dry 0 5 6;", 1);
        Cases.due("F", 5, x.well(0, 4));
        Cases.due("T", 6, x.well(0, 5));
        Cases.so("on 4", false, x.silent(0, 4));
        Cases.so("on 5", true, x.silent(0, 5));
    }

    @Cases.Says(VEIN)
    static void p03_vein_onOneDay() {
        BitWells x = plain("place;well 0 a;well 0 a;vein 0 1 7 7;", 2);
        Cases.so("ahead", false, x.lies(0, 6, 0));
        Cases.so("then", true, x.lies(0, 7, 0));
        Cases.so("behind", false, x.lies(0, 8, 0));
    }

    @Cases.Says(VEIN)
    static void p03_vein_from0To364() {
        BitWells x = plain("place;well 0 a;well 0 a;vein 1 0 0 364;", 2);
        for (int day : new int[] {0, 364}) {
            Cases.so("the first told", true, x.lies(1, day, 0));
            Cases.so("not the other", false, x.lies(0, day, 0));
            Cases.so("not the first told", false, x.lies(1, day, 16));
            Cases.so("the other", true, x.lies(0, day, 16));
        }
    }

    @Cases.Says(VEIN)
    static void p03_vein_2() {
        BitWells x = plain("place;well 0 a;well 0 a;vein 0 1 0 9;vein 0 1 0 9;", 2);
        Cases.due("veins", 2, x.told(3));
        Cases.due("states", 64, x.told(4));
    }

    @Cases.Says(FROST)
    static void p03_frost_onOneDayAndTheWholeYear() {
        BitWells x = plain("place;well 0 a;frost 7 7;", 1);
        Cases.so("ahead", false, x.silent(0, 6));
        Cases.so("then", true, x.silent(0, 7));
        Cases.so("behind", false, x.silent(0, 8));
        BitWells y = plain("place;well 0 a;frost 0 364;", 1);
        Cases.so("on 0", true, y.silent(0, 0));
        Cases.so("on 364", true, y.silent(0, 364));
    }

    @Cases.Says(FROST)
    static void p03_frost_theLastCounts() {
        BitWells x = plain("place;well 0 a;frost 0 364;frost 9 10;", 1);
        Cases.so("on 8", false, x.silent(0, 8));
        Cases.so("on 9", true, x.silent(0, 9));
        Cases.so("on 11", false, x.silent(0, 11));
    }

    @Cases.Says(IS)
    static void p03_is_0Without() {
        Cases.due("without", 0, plain("place;", 0).told(5));
    }

    @Cases.Says(IS)
    static void p03_is_0() {
        Cases.due("0", 0, plain("is 0;", 0).told(5));
    }

    @Cases.Says(IS)
    static void p03_is_15Of16() {
        Cases.due("15", 15, plain("is 15;", 0).told(5));
    }

    @Cases.Says({IS, STATE})
    static void p03_is_63Of64() {
        BitWells x = plain("place;well 0 a;well 0 a;vein 0 1 0 9;vein 1 0 0 9;is 63;", 2);
        Cases.due("63", 63, x.told(5));
        Cases.due("states", 64, x.told(4));
    }

    @Cases.Says(IS)
    static void p03_is_theLastCounts() {
        Cases.due("the last", 2, plain("is 5;is 2;", 0).told(5));
    }

    @Cases.Says(IS)
    static void p03_is_aboveTheStatesCountsNoMoreBehindAnother() {
        Cases.due("the last", 2, plain("is 63;is 2;", 0).told(5));
    }

    @Cases.Says(IS)
    static void p03_is_ofThoseThereAreAsTheTextEnds() {
        BitWells x = plain("atoms 1;is 7;place;well 0 a;well 0 a;vein 0 1 0 9;vein 1 0 0 9;", 2);
        Cases.due("7 of 8", 7, x.told(5));
    }

    @Cases.Says(STATE)
    static void p03_state_theLeastCountry() {
        BitWells x = plain("atoms 1;", 0);
        Cases.due("states", 2, x.told(4));
        Cases.due("as bits", 3, x.left());
    }

    @Cases.Says(STATE)
    static void p03_state_bitsOfAtomsAndVeins() {
        BitWells x = plain("atoms 2;place;well 0 a;well 0 a;vein 0 1 0 9;vein 0 1 20 29;", 2);
        Cases.due("states", 16, x.told(4));
        Cases.so("a is the lowest", true, x.be(1) == 0 && Cases.question(x, 0, "a") == 1 && x.says(0, 0, 40, 1) == 1);
        Cases.so("vein 0: bit 2", true, x.lies(1, 0, 4) && !x.lies(0, 0, 4));
        Cases.so("vein 0: bit 3 is another's", true, x.lies(0, 0, 8) && !x.lies(1, 0, 8));
        Cases.so("vein 1: bit 3", true, x.lies(1, 20, 8) && !x.lies(0, 20, 8));
    }

    @Cases.Says(TOKENS)
    static void p03_numbers_withZerosAhead() {
        BitWells x = plain("atoms 0004;place;place;road 00 01 " + "0".repeat(300) + "9;is 015;", 0);
        Cases.due("a road", 9, x.far(0, 1));
        Cases.due("is", 15, x.told(5));
    }

    @Cases.Says(TOKENS)
    static void p03_blanks_noneWhereWordsAndNumbersMeet() {
        BitWells x = plain("atoms4;place;well0abcd;lies0 2 1;dry0 3 4;frost5 6;is15;", 1);
        Cases.due("is", 15, x.told(5));
        Cases.due("letters", 15, x.well(0, 1));
    }

    @Cases.Says(TOKENS)
    static void p03_blanks_aheadOfAllAndAtTheEnd() {
        BitWells x = plain("   atoms   2   ;   place   ;   place  ;  road   0   1   5   ;   well   1   ba   ;   is   3   ;   ", 1);
        Cases.due("a road", 5, x.far(1, 0));
        Cases.due("is", 3, x.told(5));
    }

    // ---- the tape

    @Cases.Says("Twenty bytes come on the TAPE, of each number the highest first: how many there are;")
    static void p02_feed_theHighestFirst() {
        for (int at = 0; at < 20; at++) {
            BitWells x = new BitWells();
            StringBuilder text = new StringBuilder(" ".repeat(20));
            text.setCharAt(at, 'A');
            Cases.due("the bytes", -9, Cases.country(x, text.toString()));
            Cases.due("the place of byte " + at, at, x.fault());
        }
    }

    @Cases.Says("Twenty bytes come on the TAPE, of each number the highest first: how many there are;")
    static void p02_feed_howManyThereAre() {
        BitWells x = new BitWells();
        for (int many = 20; many <= 600; many += 20) {
            Cases.due("how many", many, x.feed(0, 0, 0, 0, 0));
            Cases.due("counted", many, x.count(1));
        }
    }

    @Cases.Says("NONE, doing nothing, if there would be more than 600.")
    static void p02_feed_past600DoesNothing() {
        BitWells x = new BitWells();
        Cases.feed(x, " ".repeat(580) + "place;place;is 15;  ");
        Cases.due("600 bytes", 600, x.count(1));
        for (int i = 0; i < 3; i++) {
            Cases.due("20 more", -1, x.feed(-1, -1, -1, -1, -1));
            Cases.due("600 bytes", 600, x.count(1));
        }
        Cases.due("it is not refused", 0, x.status(0) + x.status(1));
        Cases.due("the bytes are as they were", 0, x.country(600));
        Cases.due("to the last", 15, x.told(5));
    }

    @Cases.Says("The first n bytes of the TAPE (empty then)")
    static void p02_feed_anewBehindAText() {
        BitWells x = new BitWells();
        Cases.feed(x, " ".repeat(600));
        x.country(3);
        Cases.due("from 0 on", 20, x.feed(0x69732037, 0x3B202020, 0x20202020, 0x20202020, 0x20202020));
        Cases.due("its bytes are the first", 0, x.country(5));
        Cases.due("is", 7, x.told(5));
    }

    // ---- n

    @Cases.Says("The first n bytes of the TAPE (empty then)")
    static void p03_n_0OfAFullTape() {
        BitWells x = Cases.rich();
        Cases.due("no wells", 0, x.country(0));
        Cases.due("no places", 0, x.told(1));
        Cases.due("the tape is empty", 0, x.count(1));
    }

    @Cases.Says("The first n bytes of the TAPE (empty then)")
    static void p03_n_theRestIsGone() {
        BitWells x = new BitWells();
        Cases.feed(x, "place;place;place;is 3;");
        x.country(12);
        Cases.due("two places", 2, x.told(1));
        Cases.due("is", 0, x.told(5));
        Cases.due("the tape is empty", 0, x.count(1));
    }

    @Cases.Says("The first n bytes of the TAPE (empty then)")
    static void p03_n_theTapeIsEmptyBehindAFault() {
        BitWells x = new BitWells();
        Cases.feed(x, "foo;");
        Cases.due("a fault", -9, x.country(4));
        Cases.due("the tape is empty", 0, x.count(1));
    }

    @Cases.Says("IllegalArgumentException: n is not 0 to the TAPE's bytes (it stays).")
    static void p03_n_anEmptyTapeHas0() {
        BitWells x = new BitWells();
        Cases.refused("1 of 0", Cases.WRONG, () -> x.country(1));
        Cases.due("0 of 0", 0, x.country(0));
    }

    @Cases.Says("IllegalArgumentException: n is not 0 to the TAPE's bytes (it stays).")
    static void p03_n_refusedTheTapeStaysByteForByte() {
        BitWells x = new BitWells();
        Cases.feed(x, "place;place;is 3;   ");
        Cases.refused("21 of 20", Cases.WRONG, () -> x.country(21));
        Cases.refused("-1", Cases.WRONG, () -> x.country(-1));
        Cases.due("20 of 20", 0, x.country(20));
        Cases.due("is", 3, x.told(5));
    }

    @Cases.Says("IllegalArgumentException: n is not 0 to the TAPE's bytes (it stays).")
    static void p03_n_601OfAFullTape() {
        BitWells x = new BitWells();
        Cases.feed(x, " ".repeat(600));
        Cases.refused("601 of 600", Cases.WRONG, () -> x.country(601));
        Cases.due("600 of 600", 0, x.country(600));
    }

    // ---- what a new country has none of, what a fault leaves

    private static void emptied(Cases c) {
        gone(c, "questions", x -> x.states(0, 0) + x.states(1, 0) + x.states(3, 0) + x.parts(0, 0) + 1);
        gone(c, "goal", x -> x.known(0));
        gone(c, "diary", x -> x.told(6) + x.diary(0, 0) + 1);
        gone(c, "hearsay", x -> x.told(7));
        gone(c, "offers", x -> x.offer(2, 1, 0) + x.offer(1, 2, 0));
        gone(c, "images", x -> x.count(0) + x.restore() + 1);
        gone(c, "otherStateThatIs", x -> x.told(5) - 1);
        gone(c, "fault", x -> x.fault() + 1);
    }

    private interface Look {
        long at(BitWells x);
    }

    private static void gone(Cases c, String name, Look look) {
        c.with("p03_new_no_" + name, new String[] {NEW}, () -> {
            Cases.so("there was one", true, look.at(Cases.rich()) != 0);
            BitWells x = Cases.emptyTape(Cases.rich());
            Cases.due("three wells", 3, Cases.country(x, "atoms 2;place;well 0 a;well 0 a;well 0 a;is 1;"));
            Cases.due("what is left of it", 0, look.at(x));
        });
    }

    @Cases.Says(NEW)
    static void p03_new_howManyWells0And6() {
        Cases.due("none", 0, Cases.country(new BitWells(), "place;"));
        Cases.due("six", 6, Cases.country(new BitWells(), "place;" + "well 0 a;".repeat(6)));
    }

    @Cases.Says(NEW)
    static void p03_new_noRoadsLiesDryVeinsFrostOfTheOldOne() {
        BitWells x = Cases.emptyTape(Cases.rich());
        Cases.due("two wells", 2, Cases.country(x, "place;place;well 0 a;well 0 a;"));
        Cases.due("road", -1, x.far(0, 1));
        Cases.due("lies", 0, x.well(0, 2));
        Cases.due("its R", 0, x.well(0, 3));
        Cases.due("dry", -1, x.well(1, 4));
        Cases.due("to", -1, x.well(1, 5));
        Cases.so("frost", false, x.silent(0, 20));
        Cases.so("vein", false, x.lies(1, 30, 0));
        Cases.due("veins", 0, x.told(3));
        Cases.due("atoms", 4, x.told(0));
    }

    @Cases.Says(NEW)
    static void p03_new_whatWellsSaidOnOldDaysCountsNoMore() {
        BitWells x = Cases.land("atoms 1;place;well 0 a;lies 0 1 0;frost 5 6;", "says 0 a");
        Cases.due("frost", 0, x.states(0, 5));
        Cases.due("a lie", 1, x.states(0, 4));
        Cases.country(x, "atoms 1;place;well 0 a;");
        Cases.ask(x, new String[] {"says 0 a"});
        Cases.due("no frost", 2, x.states(0, 5));
        Cases.due("no lie", 2, x.states(0, 4));
    }

    /** A country of each kind of fault leaves all but the tape as it was. */
    private static void kept(Cases c) {
        String[][] faults = {{"-9", "atoms 3;place;well 0 c;is 5;foo"}, {"-8", "atoms 1;place;lies 0 1 0;"},
            {"-7", "place;".repeat(9)}, {"-6", "atoms 1;place;is 2;"}};
        for (String[] f : faults) {
            c.with("p03_fault" + (10 + Integer.parseInt(f[0])) + "_leavesAllButTheTape", new String[] {STAYS}, () -> {
                BitWells x = Cases.emptyTape(Cases.rich());
                List<Long> before = Cases.digest(x);
                Cases.due("the fault", Integer.parseInt(f[0]), Cases.country(x, f[1]));
                before.set(before.size() - 3, (long) x.fault());
                Cases.same("a faulty country", before, Cases.digest(x));
                Cases.due("the image too", 0, x.restore());
                Cases.due("with its state", 1, x.told(5));
            });
        }
    }

    // ---- the place of the fault

    private static final String LATEST = "The place of the FAULT of the latest text; NONE without.";

    @Cases.Says(LATEST)
    static void p06_fault_noneInANewObject() {
        Cases.due("none", -1, new BitWells().fault());
    }

    @Cases.Says(LATEST)
    static void p06_fault_noneBehindATextWithoutOne() {
        BitWells x = new BitWells();
        Cases.country(x, "foo;");
        Cases.due("a country's", 0, x.fault());
        Cases.country(x, "");
        Cases.due("none", -1, x.fault());
        Cases.question(x, 0, "a a");
        Cases.due("a question's", 2, x.fault());
        Cases.question(x, 0, "a");
        Cases.due("none", -1, x.fault());
        Cases.goal(x, "a or or");
        Cases.due("the goal's", 5, x.fault());
        Cases.goal(x, "a");
        Cases.due("none", -1, x.fault());
    }

    @Cases.Says(LATEST)
    static void p06_fault_ofTheLatestWhicheverTextItWas() {
        BitWells x = new BitWells();
        Cases.country(x, " foo;");
        Cases.goal(x, "a a");
        Cases.due("the goal's", 2, x.fault());
        Cases.question(x, 0, "a");
        Cases.due("the question has none", -1, x.fault());
    }

    @Cases.Says(LATEST)
    static void p06_fault_atTheLength() {
        BitWells x = new BitWells();
        Cases.question(x, 0, "");
        Cases.due("of no bytes", 0, x.fault());
        Cases.question(x, 0, " ".repeat(150));
        Cases.due("of 150 bytes", 150, x.fault());
        Cases.country(x, "place;" + " ".repeat(589) + "place");
        Cases.due("of 600 bytes", 600, x.fault());
    }

    @Cases.Says(LATEST)
    static void p06_fault_aRefusedCallTakesNoText() {
        BitWells x = new BitWells();
        Cases.goal(x, "a a");
        Cases.refused("no bytes", Cases.WRONG, () -> x.country(1));
        Cases.refused("no bytes", Cases.WRONG, () -> x.question(0, 1));
        Cases.refused("no bytes", Cases.WRONG, () -> x.goal(1));
        Cases.due("as it was", 2, x.fault());
    }

    @Cases.Says(LATEST)
    static void p06_fault_noImageKeepsIt() {
        BitWells x = new BitWells();
        x.image();
        Cases.goal(x, "a a");
        x.restore();
        Cases.due("as it was", 2, x.fault());
    }
}
