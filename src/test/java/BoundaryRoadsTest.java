/** The boundary cases of riders, of days that are sold, and of codes: promises 35 to 40 and 46. */
public final class BoundaryRoadsTest {
    private static final String RIDERS = "RIDERS: so many (1 to 3) ride from a PLACE, each from WELL to WELL by least ways; told WELLS "
            + "(bits) are come to by one of them: the fewest DAYS in which all are.";
    private static final String RIDERS_HOW = "RIDERS; NONE: some WELL can't be come to.";
    private static final String TOUR = "TOUR: as RIDERS, one, who comes back to the PLACE.";
    private static final String TOUR_HOW = "TOUR; NONE: some WELL can't be come to.";
    private static final String SOLD = "SOLD is a DAY of WELLS: a buyer (0 to 5) offers for a WELL (0 to 99; 0 at first).";
    private static final String OFFER = "A buyer's offer for a WELL (0 to 99): what it was.";
    private static final String SHARED = "SHARED: each buyer gets one WELL at most, each WELL (not SILENT) goes to one at most: the way "
            + "by which what they offer is most together, of alike ones the first (buyer by buyer: nothing ahead of WELLS, by number).";
    private static final String SHARED_HOW = "SHARED on a DAY: the WELL a buyer gets (NONE).";
    private static final String PAYS = "PAYS: what the others would get more, were that buyer not there.";
    private static final String SOLD_HOW = "What all get together (what 0), what a buyer PAYS (1 and the buyer).";
    private static final String CODE = "CODE of words for so many lost marks L (0 to 3): words of n marks (bits), from 0 on each that is "
            + "unlike each one taken in more than L marks.";
    private static final String CODE_HOW = "The i-th word of the CODE of n (1 to 8) marks and L; NONE: none such.";
    private static final String MARKS = "MARKS: the least n (1 to 8) by which there are so many words.";
    private static final String MARKS_HOW = "MARKS for so many words (1 to 256) and L; NONE: not by 8.";

    public static void main(String[] args) {
        cases().play();
    }

    static Cases cases() {
        Cases c = Cases.of(BoundaryRoadsTest.class);
        capacities(c);
        return c;
    }

    // ---- riders and tours

    /** Places in a row, 2 and 3 days apart, with a well at each, and a well at a place that can't be come to. */
    private static BitWells row() {
        return Cases.land("place;place;place;place;road 0 1 2;road 1 2 3;well 0 a;well 1 a;well 2 a;well 3 a;");
    }

    @Cases.Says(RIDERS)
    static void p35_riders_noWellsTold() {
        for (int many = 1; many <= 3; many++) {
            Cases.due("riders " + many, 0, row().riders(0, many, 0));
        }
    }

    @Cases.Says(RIDERS)
    static void p35_riders_whereOneIs() {
        Cases.due("with roads", 0, row().riders(1, 1, 2));
        Cases.due("without", 0, row().riders(3, 3, 8));
    }

    @Cases.Says({RIDERS, RIDERS_HOW})
    static void p35_riders_NONE() {
        BitWells x = row();
        for (int many = 1; many <= 3; many++) {
            Cases.due("one can't be come to", -1, x.riders(0, many, 8));
            Cases.due("some can't", -1, x.riders(0, many, 15));
            Cases.due("from there", -1, x.riders(3, many, 9));
        }
        Cases.due("it is not told", 5, x.riders(0, 1, 7));
    }

    @Cases.Says(RIDERS)
    static void p35_riders_1To3() {
        BitWells x = Cases.land("place;place;place;place;road 0 1 4;road 0 2 5;road 0 3 6;well 1 a;well 2 a;well 3 a;");
        Cases.due("one", 24, x.riders(0, 1, 7));
        Cases.due("two", 13, x.riders(0, 2, 7));
        Cases.due("three", 6, x.riders(0, 3, 7));
    }

    @Cases.Says(RIDERS)
    static void p35_riders_moreThanWells() {
        BitWells x = row();
        Cases.due("three for one", 2, x.riders(0, 3, 2));
        Cases.due("three for two", 3, x.riders(1, 3, 5));
    }

    @Cases.Says(RIDERS)
    static void p35_riders_allSixWells() {
        BitWells x = Cases.land("place;".repeat(7) + "road 0 1 9;road 0 2 9;road 0 3 9;road 0 4 9;road 0 5 9;road 0 6 9;well 1 a;well 2 "
                + "a;well 3 a;well 4 a;well 5 a;well 6 a;");
        Cases.due("one", 99, x.riders(0, 1, 63));
        Cases.due("two", 45, x.riders(0, 2, 63));
        Cases.due("three", 27, x.riders(0, 3, 63));
    }

    @Cases.Says(RIDERS)
    static void p35_riders_wellsAtOnePlace() {
        BitWells x = Cases.land("place;place;road 0 1 9;" + "well 1 a;".repeat(6));
        Cases.due("all at once", 9, x.riders(0, 1, 63));
        Cases.due("by three", 9, x.riders(0, 3, 63));
        Cases.due("the last alone", 9, x.riders(0, 1, 32));
    }

    @Cases.Says(RIDERS)
    static void p35_riders_theFarthest() {
        StringBuilder text = new StringBuilder("place;".repeat(8));
        for (int place = 0; place < 7; place++) {
            text.append("road ").append(place).append(' ').append(place + 1).append(" 9;");
        }
        BitWells x = Cases.land(text + "well 0 a;well 7 a;");
        Cases.due("end to end", 63, x.riders(0, 1, 3));
        Cases.due("from the middle", 90, x.riders(4, 1, 3));
        Cases.due("from the middle, by two", 36, x.riders(4, 2, 3));
    }

    @Cases.Says(RIDERS)
    static void p35_riders_silentWellsTooAndOverOthersThatAreNotTold() {
        BitWells x = Cases.land("place;place;place;road 0 1 2;road 1 2 3;well 1 a;well 2 a;dry 1 0 364;frost 0 364;");
        Cases.due("over the first", 5, x.riders(0, 1, 2));
    }

    @Cases.Says(TOUR)
    static void p46_tour_noWellsTold() {
        Cases.due("0", 0, row().tour(0, 0));
        Cases.due("0 where there are no ways", 0, row().tour(3, 0));
    }

    @Cases.Says(TOUR)
    static void p46_tour_whereOneIs() {
        Cases.due("with roads", 0, row().tour(1, 2));
        Cases.due("without", 0, row().tour(3, 8));
    }

    @Cases.Says({TOUR, TOUR_HOW})
    static void p46_tour_NONE() {
        BitWells x = row();
        Cases.due("one can't be come to", -1, x.tour(0, 8));
        Cases.due("some can't", -1, x.tour(0, 15));
        Cases.due("from there", -1, x.tour(3, 1));
        Cases.due("it is not told", 10, x.tour(0, 7));
    }

    @Cases.Says(TOUR)
    static void p46_tour_thereAndBack() {
        Cases.due("one", 4, row().tour(0, 2));
        Cases.due("all six", 108, Cases.land("place;".repeat(7) + "road 0 1 9;road 0 2 9;road 0 3 9;road 0 4 9;road 0 5 9;road 0 6 9;well "
                + "1 a;well 2 a;well 3 a;well 4 a;well 5 a;well 6 a;").tour(0, 63));
    }

    @Cases.Says(TOUR)
    static void p46_tour_aRing() {
        BitWells x = Cases.land("place;place;place;place;road 0 1 1;road 1 2 2;road 2 3 3;road 3 0 4;well 0 a;well 1 a;well 2 a;well 3 a;");
        Cases.due("round", 10, x.tour(0, 15));
        Cases.due("there and back", 6, x.tour(0, 7));
        Cases.due("the far ones", 10, x.tour(1, 12));
    }

    // ---- days sold

    /** Six wells; the last one is dry on day 0, all are frozen on day 364. */
    private static BitWells six() {
        return Cases.land("place;" + "well 0 a;".repeat(6) + "dry 5 0 0;frost 364 364;");
    }

    @Cases.Says({SOLD, OFFER})
    static void p36_offer_0AtFirst() {
        BitWells x = six();
        for (int b = 0; b < 6; b++) {
            for (int w = 0; w < 6; w++) {
                Cases.due("buyer " + b + ", well " + w, 0, x.offer(b, w, 10 * b + w));
            }
        }
        for (int b = 0; b < 6; b++) {
            for (int w = 0; w < 6; w++) {
                Cases.due("buyer " + b + ", well " + w, 10 * b + w, x.offer(b, w, 0));
            }
        }
    }

    @Cases.Says({SOLD, OFFER})
    static void p36_offer_0And99() {
        BitWells x = six();
        Cases.due("0 at first", 0, x.offer(5, 5, 99));
        Cases.due("99", 99, x.offer(5, 5, 0));
        Cases.due("0", 0, x.offer(5, 5, 0));
    }

    @Cases.Says({SHARED, SHARED_HOW, "0 at first"})
    static void p37_shared_noOffers() {
        BitWells x = six();
        for (int b = 0; b < 6; b++) {
            Cases.due("buyer " + b, -1, x.shared(b, 0));
        }
        Cases.due("without wells", -1, new BitWells().shared(5, 0));
    }

    @Cases.Says({SHARED, SHARED_HOW})
    static void p37_shared_nothingAheadOfWells() {
        BitWells x = six();
        x.offer(0, 0, 7);
        x.offer(1, 0, 7);
        Cases.due("the first of two alike goes without", -1, x.shared(0, 0));
        Cases.due("the other gets it", 0, x.shared(1, 0));
    }

    @Cases.Says({SHARED, SHARED_HOW})
    static void p37_shared_wellsByNumber() {
        BitWells x = six();
        x.offer(3, 4, 7);
        x.offer(3, 1, 7);
        Cases.due("the first of two alike", 1, x.shared(3, 0));
    }

    @Cases.Says(SHARED)
    static void p37_shared_oneWellAtMost() {
        BitWells x = six();
        x.offer(2, 0, 50);
        x.offer(2, 1, 49);
        x.offer(4, 1, 1);
        Cases.due("the better one", 0, x.shared(2, 0));
        Cases.due("another buyer gets the other", 1, x.shared(4, 0));
        Cases.due("together", 51, x.sold(0, 0));
    }

    @Cases.Says(SHARED)
    static void p37_shared_theMostTogetherAheadOfTheFirst() {
        BitWells x = six();
        x.offer(0, 0, 10);
        x.offer(0, 1, 9);
        x.offer(1, 0, 5);
        Cases.due("the lesser one, as the other gets more by it", 1, x.shared(0, 0));
        Cases.due("the other", 0, x.shared(1, 0));
    }

    @Cases.Says(SHARED)
    static void p37_shared_silentOnesGoToNone() {
        BitWells x = six();
        x.offer(0, 5, 99);
        x.offer(0, 0, 1);
        Cases.due("dry on 0", 0, x.shared(0, 0));
        Cases.due("on 1", 5, x.shared(0, 1));
        Cases.due("frost on 364", -1, x.shared(0, 364));
        Cases.due("on 363", 5, x.shared(0, 363));
    }

    @Cases.Says({SHARED, SHARED_HOW})
    static void p37_shared_allSixToAllSix() {
        BitWells x = six();
        for (int b = 0; b < 6; b++) {
            x.offer(b, 5 - b, 99);
        }
        for (int b = 0; b < 6; b++) {
            Cases.due("buyer " + b, 5 - b, x.shared(b, 1));
        }
        Cases.due("together", 594, x.sold(1, 0));
        Cases.due("but for the dry one", 495, x.sold(0, 0));
    }

    @Cases.Says(SHARED)
    static void p37_shared_moreBuyersThanWells() {
        BitWells x = Cases.land("place;well 0 a;");
        for (int b = 0; b < 6; b++) {
            x.offer(b, 0, 10 + (b == 4 ? 1 : 0));
        }
        for (int b = 0; b < 6; b++) {
            Cases.due("buyer " + b, b == 4 ? 0 : -1, x.shared(b, 0));
        }
    }

    @Cases.Says(SOLD_HOW)
    static void p38_sold_0WithoutOffersOrWells() {
        BitWells x = six();
        for (int what = 0; what <= 6; what++) {
            Cases.due("what " + what, 0, x.sold(0, what));
            Cases.due("without wells, what " + what, 0, new BitWells().sold(364, what));
        }
    }

    @Cases.Says({SOLD_HOW, PAYS})
    static void p38_sold_theOnlyBuyerPaysNothing() {
        BitWells x = six();
        x.offer(5, 0, 99);
        Cases.due("together", 99, x.sold(0, 0));
        Cases.due("buyer 5 pays", 0, x.sold(0, 6));
    }

    @Cases.Says({SOLD_HOW, PAYS})
    static void p38_sold_whoGetsNothingPaysNothing() {
        BitWells x = six();
        x.offer(0, 0, 99);
        x.offer(1, 0, 98);
        Cases.due("buyer 0 pays what the other offers", 98, x.sold(0, 1));
        Cases.due("buyer 1 pays", 0, x.sold(0, 2));
        x.offer(1, 0, 99);
        Cases.due("of two alike the first gets nothing", 0, x.sold(0, 1));
        Cases.due("and the other pays all of it", 99, x.sold(0, 2));
    }

    @Cases.Says({SOLD_HOW, PAYS})
    static void p38_sold_whatTheOthersWouldGetMoreByAnotherWay() {
        BitWells x = Cases.land("place;well 0 a;well 0 a;");
        x.offer(0, 0, 10);
        x.offer(1, 0, 8);
        x.offer(1, 1, 5);
        Cases.due("together", 15, x.sold(0, 0));
        Cases.due("buyer 0 pays", 3, x.sold(0, 1));
        Cases.due("buyer 1 pays", 0, x.sold(0, 2));
    }

    @Cases.Says({SOLD_HOW, SHARED})
    static void p38_sold_silentDays() {
        BitWells x = six();
        x.offer(0, 5, 9);
        x.offer(1, 5, 4);
        Cases.due("dry on 0", 0, x.sold(0, 0));
        Cases.due("nothing is paid", 0, x.sold(0, 1));
        Cases.due("on 1", 9, x.sold(1, 0));
        Cases.due("paid", 4, x.sold(1, 1));
        Cases.due("frost on 364", 0, x.sold(364, 0));
        Cases.due("nothing is paid", 0, x.sold(364, 1));
    }

    // ---- codes

    /** By L and n how many words there are. */
    private static final int[][] WORDS = {{2, 4, 8, 16, 32, 64, 128, 256}, {1, 2, 4, 8, 16, 32, 64, 128}, {1, 1, 2, 2, 4, 8, 16, 16},
        {1, 1, 1, 2, 2, 4, 8, 16}};

    private static void capacities(Cases c) {
        for (int lost = 0; lost <= 3; lost++) {
            int l = lost;
            c.with("p39_marks_asManyWordsAsThereAreAndOneMore_L" + l, new String[] {MARKS, MARKS_HOW}, () -> marks(l));
            c.with("p40_code_theLastWordAndOneMore_L" + l, new String[] {CODE, CODE_HOW}, () -> words(l));
        }
    }

    private static void marks(int lost) {
        BitWells x = new BitWells();
        for (int words = 1; words <= 256; words++) {
            int n = 1;
            while (n <= 8 && WORDS[lost][n - 1] < words) {
                n++;
            }
            Cases.due(words + " words", n > 8 ? -1 : n, x.marks(words, lost));
        }
    }

    private static void words(int lost) {
        BitWells x = new BitWells();
        for (int n = 1; n <= 8; n++) {
            int many = WORDS[lost][n - 1];
            Cases.due(n + " marks, word 0", 0, x.code(n, lost, 0));
            int last = x.code(n, lost, many - 1);
            Cases.so(n + " marks, the last word is one", true, last >= 0 && last < 1 << n);
            Cases.due(n + " marks, word " + many, -1, x.code(n, lost, many));
            Cases.due(n + " marks, word -1", -1, x.code(n, lost, -1));
        }
    }

    @Cases.Says({MARKS, MARKS_HOW})
    static void p39_marks_oneWord() {
        for (int lost = 0; lost <= 3; lost++) {
            Cases.due("L " + lost, 1, new BitWells().marks(1, lost));
        }
    }

    @Cases.Says(MARKS_HOW)
    static void p39_marks_256() {
        BitWells x = new BitWells();
        Cases.due("L 0", 8, x.marks(256, 0));
        for (int lost = 1; lost <= 3; lost++) {
            Cases.due("L " + lost, -1, x.marks(256, lost));
        }
    }

    @Cases.Says({CODE, CODE_HOW})
    static void p40_code_wordsOf8Marks() {
        BitWells x = new BitWells();
        int[][] want = {{0, 255, 255}, {1, 127, 255}, {2, 15, 127}, {3, 15, 255}};
        for (int[] w : want) {
            Cases.due("L " + w[0] + ", the last", w[2], x.code(8, w[0], w[1]));
        }
        Cases.due("L 1, the first behind 0", 3, x.code(8, 1, 1));
        Cases.due("L 2, the first behind 0", 7, x.code(8, 2, 1));
        Cases.due("L 3, the first behind 0", 15, x.code(8, 3, 1));
    }

    @Cases.Says({CODE, CODE_HOW})
    static void p40_code_of1Mark() {
        BitWells x = new BitWells();
        Cases.due("L 0", 1, x.code(1, 0, 1));
        Cases.due("L 0, one more", -1, x.code(1, 0, 2));
        Cases.due("L 1", -1, x.code(1, 1, 1));
        Cases.due("L 3", 0, x.code(1, 3, 0));
    }

    @Cases.Says(CODE_HOW)
    static void p40_code_iAtItsMost() {
        BitWells x = new BitWells();
        for (int i : new int[] {256, 257, 65536, Integer.MAX_VALUE, Integer.MIN_VALUE, -1}) {
            Cases.due("i " + i, -1, x.code(8, 0, i));
        }
        Cases.due("i 255", 255, x.code(8, 0, 255));
    }
}
