import java.util.List;

/** The boundary cases of a question's text, and the same of the goal's: promises 4 and 5, with the faults that they use. */
public final class BoundaryPhraseTest {
    private static final String TEXT = "A QUESTION is a text of up to 150 bytes: C, at the end nothing more; so is the GOAL.";
    private static final String TONGUE = "C: D { \"or\" D }. D: B { \"and\" B }. B: \"not\" B, \"[\" C \"]\", \"if\" B \"then\" B, "
            + "\"says\" K B, or an ATOM (a WORD of one letter).";
    private static final String TOKENS = "Numbers: digits, as many as stand there; WORDS: small letters, as many as stand there; "
            + "blanks (32) may stand ahead of all these, and at the end.";
    private static final String FIRST = "FAULTS, the first from the left, at its first byte:";
    private static final String FAULT_1 = "1 what can't stand there (at the length, if the text ends too early);";
    private static final String FAULT_2 = "2 a number that is none such,";
    private static final String FAULT_3 = "or a 7th of [ not if says that is open at one time (an if till its second B ends, others "
            + "till their B does);";
    private static final String LIKEWISE = "Likewise a QUESTION (0 to 5; n to 150): 1 (what the DIARY and HEARSAY tell was of the "
            + "QUESTIONS as they were then).";
    private static final String GOAL = "Likewise the GOAL (n to 150): 1.";
    private static final String TWO_ATOMS = "atoms 2;place;well 0 ab;well 0 a;";

    /** A question or the goal, so that each case is one of both. */
    private interface Taker {
        int take(BitWells x, String text);
    }

    public static void main(String[] args) {
        cases().play();
    }

    static Cases cases() {
        Cases c = Cases.of(BoundaryPhraseTest.class);
        whatCannotStand(c);
        endsTooEarly(c);
        numbers(c);
        tooManyOpen(c);
        several(c);
        fine(c);
        return c;
    }

    // ---- faults: by name, kind, place and text

    private static void both(Cases c, String name, String[] words, java.util.function.Consumer<Taker> body) {
        c.with("p04_" + name, words, () -> body.accept((x, text) -> Cases.question(x, 3, text)));
        c.with("p05_" + name, words, () -> body.accept((x, text) -> Cases.goal(x, text)));
    }

    private static void fault(Cases c, String name, int kind, int place, String text, String... words) {
        both(c, "fault" + kind + "_" + name, words, taker -> faulty(taker, TWO_ATOMS, kind, place, text));
    }

    private static void faulty(Taker taker, String land, int kind, int place, String text) {
        BitWells x = Cases.land(land);
        Cases.due("the text '" + text + "'", kind - 10, taker.take(x, text));
        Cases.due("the place of its fault", place, x.fault());
        Cases.due("the tape is empty", 0, x.count(1));
    }

    private static void whatCannotStand(Cases c) {
        fault(c, "noBytes", 1, 0, "", FAULT_1, TEXT);
        fault(c, "blanksAlone", 1, 3, "   ", FAULT_1, TEXT);
        fault(c, "atomPastN", 1, 0, "c", FAULT_1, TONGUE);
        fault(c, "atomZ", 1, 6, "a and z", FAULT_1, TONGUE);
        fault(c, "twoLetters", 1, 0, "ab", FAULT_1, TONGUE);
        fault(c, "oneLetterTwice", 1, 0, "aa", FAULT_1, TONGUE);
        fault(c, "capital", 1, 0, "A", FAULT_1);
        fault(c, "number", 1, 0, "5", FAULT_1);
        fault(c, "byteOf0", 1, 0, "\0", FAULT_1);
        fault(c, "byteOf255", 1, 1, "a" + (char) 255, FAULT_1);
        fault(c, "tabIsNoBlank", 1, 0, "\ta", FAULT_1, TOKENS);
        fault(c, "semicolonBehind", 1, 1, "a;", FAULT_1, TEXT);
        fault(c, "moreBehind", 1, 2, "a b", FAULT_1, TEXT);
        fault(c, "notBehind", 1, 2, "a not b", FAULT_1, TEXT);
        fault(c, "thenBehind", 1, 2, "a then b", FAULT_1, TEXT);
        fault(c, "bracketBehind", 1, 1, "a]", FAULT_1, TEXT);
        fault(c, "bracketOpenedBehind", 1, 1, "a[b]", FAULT_1, TEXT);
        fault(c, "moreBehindAnIf", 1, 14, "if a then b   then a", FAULT_1, TEXT);
        fault(c, "orFirst", 1, 0, "or a", FAULT_1, TONGUE);
        fault(c, "andFirst", 1, 0, "and a", FAULT_1, TONGUE);
        fault(c, "thenFirst", 1, 0, "then a", FAULT_1, TONGUE);
        fault(c, "orBehindAnd", 1, 6, "a and or b", FAULT_1, TONGUE);
        fault(c, "andBehindNot", 1, 4, "not and a", FAULT_1, TONGUE);
        fault(c, "emptyBrackets", 1, 1, "[]", FAULT_1, TONGUE);
        fault(c, "moreInBrackets", 1, 3, "[a b]", FAULT_1, TONGUE);
        fault(c, "bracketsClosedTwice", 1, 3, "[a]]", FAULT_1, TONGUE);
        fault(c, "ifWithoutThen", 1, 5, "if a b", FAULT_1, TONGUE);
        fault(c, "ifOfTwo", 1, 5, "if a and b then a", FAULT_1, TONGUE);
        fault(c, "ifOfNone", 1, 3, "if then a", FAULT_1, TONGUE);
        fault(c, "saysOfNoWell", 1, 5, "says a", FAULT_1, TONGUE);
        fault(c, "saysOfTwoNumbers", 1, 7, "says 0 1 a", FAULT_1, TONGUE);
        fault(c, "saysNothing", 1, 7, "says 0 then a", FAULT_1, TONGUE);
        fault(c, "wordsRunTogether", 1, 0, "nota", FAULT_1, TOKENS);
        fault(c, "orRunTogether", 1, 2, "a orb", FAULT_1, TOKENS);
        fault(c, "wordCutShort", 1, 2, "a an", FAULT_1, TOKENS);
    }

    /** Each kind of text cut off behind each of its words, with blanks behind that, and without. */
    private static void endsTooEarly(Cases c) {
        String[][] kinds = {{"or", "a or ", "2"}, {"and", "a and ", "2"}, {"not", "not ", "0"}, {"bracket", "[ a ", "0"},
            {"if", "if a then ", "0"}, {"says", "says 1 ", "0"}, {"bracketOfOr", "[ a or b and a ", "2"}};
        for (String[] kind : kinds) {
            String text = kind[1] + "b ]";
            both(c, "fault1_endsTooEarlyIn_" + kind[0], new String[] {FAULT_1}, taker -> {
                for (int at = text.indexOf(' ', Integer.parseInt(kind[2])); at >= 0 && at < kind[1].length();
                        at = text.indexOf(' ', at + 1)) {
                    String cut = text.substring(0, at);
                    faulty(taker, TWO_ATOMS, 1, at, cut);
                    faulty(taker, TWO_ATOMS, 1, at + 2, cut + "  ");
                }
            });
        }
    }

    private static void numbers(Cases c) {
        fault(c, "saysOfTheWellPastTheLast", 2, 5, "says 2 a", FAULT_2, TONGUE);
        fault(c, "saysOfANumberThatWrapsTo0", 2, 5, "says 4294967296 a", FAULT_2, TOKENS);
        fault(c, "saysOfANumberThatWrapsALongTo0", 2, 5, "says 18446744073709551616 a", FAULT_2, TOKENS);
        fault(c, "saysOfANumberOf100Digits", 2, 5, "says " + "9".repeat(100) + " a", FAULT_2, TOKENS);
        both(c, "fault2_saysWithoutWells", new String[] {FAULT_2}, taker -> faulty(taker, "place;", 2, 5, "says 0 a"));
        both(c, "fault1_atomBWhereThereIsOne", new String[] {FAULT_1}, taker -> faulty(taker, "atoms 1;", 1, 0, "b"));
        both(c, "fault1_atomEWhereThereAreFour", new String[] {FAULT_1}, taker -> faulty(taker, "", 1, 0, "e"));
    }

    private static void tooManyOpen(Cases c) {
        fault(c, "bracket7", 3, 6, "[[[[[[[a]]]]]]]", FAULT_3);
        fault(c, "not7", 3, 24, "not not not not not not not a", FAULT_3);
        fault(c, "ifInTheFirst7", 3, 18, "if if if if if if if a", FAULT_3);
        fault(c, "ifInTheSecond7", 3, 60, "if a then ".repeat(7) + "a", FAULT_3);
        fault(c, "says7", 3, 42, "says 0 ".repeat(7) + "a", FAULT_3);
        fault(c, "eachKindAndABracket", 3, 27, "[not if a then says 0 [not [a]]]", FAULT_3);
        fault(c, "ofBlanksAhead7", 3, 8, "[[[[[[  [a", FAULT_3);
        fault(c, "theIfIsOpenInItsFirst", 3, 8, "[[[[[if [a] then b]]]]]", FAULT_3);
        fault(c, "theIfIsOpenInItsSecond", 3, 15, "[[[[[if a then not b]]]]]", FAULT_3);
        fault(c, "theNotIsOpenInItsB", 3, 9, "[[[[[not [a]]]]]]", FAULT_3);
        fault(c, "theSaysIsOpenInItsB", 3, 12, "[[[[[says 0 [a]]]]]]", FAULT_3);
        fault(c, "theBracketIsOpenInItsSecondD", 3, 11, "[[[[[[a or not b]]]]]]", FAULT_3);
    }

    private static void several(Cases c) {
        fault(c, "aheadOfALaterNumber", 1, 0, "c and says 9 a", FIRST);
        fault(c, "aheadOfALaterAtom", 2, 5, "says 9 c", FIRST);
        fault(c, "aheadOfALaterOpening", 2, 5, "says 9 [[[[[[[a", FIRST);
        fault(c, "the7thAheadOfItsNumber", 3, 24, "not not not not not not says 9 a", FIRST);
        fault(c, "the7thAheadOfItsAtom", 3, 24, "not not not not not not not c", FIRST);
        fault(c, "theAtomAheadOfTheEnd", 1, 6, "[a or c", FIRST);
    }

    // ---- texts that have no fault

    /** A text and the states of four atoms, wells of all and of a, in which it is so on day 0. */
    private static void good(Cases c, String name, String text, long states, String... words) {
        both(c, name, words, taker -> {
            BitWells x = Cases.land("place;well 0 abcd;well 0 a;");
            Cases.due("the text '" + text + "'", 1, taker.take(x, text));
            Cases.due("its fault", -1, x.fault());
            Cases.due("the tape is empty", 0, x.count(1));
            Cases.due("the states in which it is so", states, soIn(x));
        });
    }

    /** Of question 3, or of the goal, if question 3 has no text: it is so in a state by which alone it is known. */
    private static long soIn(BitWells x) {
        if (x.parts(0, 0) != BitWells.NONE) {
            return x.states(3, 0);
        }
        Cases.ask(x, new String[] {"a", "b", "c", "d"});
        long states = 0;
        for (int state = 0; state < 16; state++) {
            x.be(state);
            x.tear(0);
            for (int q = 0; q < 4; q++) {
                x.ask(0, q, q);
            }
            states |= (long) x.known(0) << state;
        }
        return states;
    }

    private static void fine(Cases c) {
        long a = 0xAAAA;
        long b = 0xCCCC;
        long d = 0xFF00;
        good(c, "text_of1Byte", "a", a, TEXT);
        good(c, "text_of150BytesOfBlanks", "a" + " ".repeat(149), a, TEXT);
        good(c, "text_of150BytesOfOrs", "    a" + " or a".repeat(28) + " or b", (a | b) & 0xFFFF, TEXT);
        good(c, "text_of150BytesOfAnds", "     b" + " and b".repeat(23) + " and a", a & b, TEXT);
        good(c, "atom_theLast", "d", d, TONGUE);
        good(c, "open_sixBrackets", "[[[[[[a]]]]]]", a, FAULT_3);
        good(c, "open_sixNots", "not not not not not not a", a, FAULT_3);
        good(c, "open_sixIfsInTheFirst", "if if if if if if a then b then b then b then b then b then b", 0xEEEE, FAULT_3);
        good(c, "open_sixIfsInTheSecond", "if a then ".repeat(6) + "b", 0xDDDD, FAULT_3);
        good(c, "open_sixSays", "says 0 ".repeat(6) + "a", a, FAULT_3);
        good(c, "open_sixAgainBehindSix", "[[[[[[a]]]]]] and [[[[[[b]]]]]]", a & b, FAULT_3);
        good(c, "open_aNotTillItsBEnds", "[[[[[not a and not b]]]]]", 0x1111, FAULT_3);
        good(c, "open_aSaysTillItsBEnds", "[[[[[says 0 a and says 1 a]]]]]", a, FAULT_3);
        good(c, "open_aBracketTillItIsClosed", "[[[[[[a] and [b]]]]]]", a & b, FAULT_3);
        good(c, "open_anIfTillItsSecondBEnds", "[[[[[if a then b and [a]]]]]]", a & b, FAULT_3);
        good(c, "open_aNotInTheIfsBoth", "[[[[if not a then not b]]]]", 0xBBBB, FAULT_3);
        good(c, "binds_andMoreThanOr", "a or b and d", a | b & d, TONGUE);
        good(c, "binds_notTheLeast", "not a and b", 0x4444, TONGUE);
        good(c, "binds_ifTheLeast", "if a then b and d", 0xDDDD & d, TONGUE);
        good(c, "binds_saysTheLeast", "says 1 a and b", a & b, TONGUE);
        good(c, "blanks_noneNeeded", "[a]or[says0b]and[d]", (a | b & d) & 0xFFFF, TOKENS);
        good(c, "blanks_aheadOfAllAndAtTheEnd", "   [   a   or   says   0   b   ]   and   d   ", (a | b) & d, TOKENS);
        good(c, "numbers_withZerosAhead", "says " + "0".repeat(99) + "1 a", a, TOKENS);
        good(c, "neverSo", "a and not a", 0, TONGUE);
        good(c, "alwaysSo", "a or not a", 0xFFFF, TONGUE);
        both(c, "atom_theOnlyOne", new String[] {TONGUE}, taker -> {
            BitWells x = Cases.land("atoms 1;");
            Cases.due("a", 1, taker.take(x, "a"));
        });
    }

    // ---- n

    private static BitWells withTape(int bytes) {
        BitWells x = Cases.land("place;well 0 ab;", "b");
        Cases.aim(x, "b");
        Cases.feed(x, "a" + " ".repeat(bytes - 1));
        return x;
    }

    @Cases.Says(LIKEWISE)
    static void p04_n_151OfMore() {
        BitWells x = withTape(160);
        Cases.refused("151", Cases.WRONG, () -> x.question(0, 151));
        Cases.due("the tape stays", 160, x.count(1));
        Cases.due("the question stays", 0xCCCC, x.states(0, 0));
        Cases.due("150", 1, x.question(0, 150));
        Cases.due("the tape is empty", 0, x.count(1));
        Cases.due("the question is another", 0xAAAA, x.states(0, 0));
    }

    @Cases.Says(GOAL)
    static void p05_n_151OfMore() {
        BitWells x = withTape(160);
        Cases.refused("151", Cases.WRONG, () -> x.goal(151));
        Cases.due("the tape stays", 160, x.count(1));
        Cases.due("150", 1, x.goal(150));
        Cases.due("the tape is empty", 0, x.count(1));
    }

    @Cases.Says(LIKEWISE)
    static void p04_n_600OfAFullTape() {
        BitWells x = withTape(600);
        Cases.refused("600", Cases.WRONG, () -> x.question(0, 600));
        Cases.refused("601", Cases.WRONG, () -> x.question(0, 601));
        Cases.due("the tape stays", 600, x.count(1));
        Cases.due("1", 1, x.question(0, 1));
    }

    @Cases.Says(GOAL)
    static void p05_n_600OfAFullTape() {
        BitWells x = withTape(600);
        Cases.refused("600", Cases.WRONG, () -> x.goal(600));
        Cases.due("the tape stays", 600, x.count(1));
        Cases.due("1", 1, x.goal(1));
    }

    @Cases.Says(LIKEWISE)
    static void p04_n_1OfAnEmptyTape() {
        BitWells x = Cases.land("place;well 0 a;");
        Cases.refused("1", Cases.WRONG, () -> x.question(0, 1));
        Cases.due("0", -9, x.question(0, 0));
    }

    @Cases.Says(GOAL)
    static void p05_n_1OfAnEmptyTape() {
        BitWells x = Cases.land("place;well 0 a;");
        Cases.refused("1", Cases.WRONG, () -> x.goal(1));
        Cases.due("0", -9, x.goal(0));
    }

    @Cases.Says(LIKEWISE)
    static void p04_n_theRestIsGone() {
        BitWells x = Cases.land("place;well 0 ab;");
        Cases.feed(x, "a or b");
        Cases.due("the first byte", 1, x.question(0, 1));
        Cases.due("a alone", 0xAAAA, x.states(0, 0));
        Cases.due("the tape is empty", 0, x.count(1));
    }

    @Cases.Says("IllegalArgumentException also: no such QUESTION.")
    static void p04_question_noSuchOneTheTapeStays() {
        BitWells x = withTape(20);
        Cases.refused("6", Cases.WRONG, () -> x.question(6, 1));
        Cases.refused("-1", Cases.WRONG, () -> x.question(-1, 1));
        Cases.due("the tape stays", 20, x.count(1));
        Cases.due("byte for byte", 1, x.question(5, 20));
        Cases.due("a", 0xAAAA, x.states(5, 0));
    }

    @Cases.Says(LIKEWISE)
    static void p04_question_eachHasATextOfItsOwn() {
        BitWells x = Cases.land("place;", "a", "b", "c", "d", "a or b", "c or d");
        long[] want = {0xAAAA, 0xCCCC, 0xF0F0, 0xFF00, 0xEEEE, 0xFFF0};
        for (int q = 0; q < 6; q++) {
            Cases.due("question " + q, want[q], x.states(q, 0));
        }
    }

    // ---- a fault leaves all but the tape

    private static final String[] FAULTS = {"a or", "says 9 a", "[[[[[[[a]]]]]]]"};

    @Cases.Says("or the FAULT less 10 (all but the TAPE stays).")
    static void p04_fault_leavesAllButTheTape() {
        for (String text : FAULTS) {
            stays(text, (x, t) -> Cases.question(x, 0, t));
        }
    }

    @Cases.Says("or the FAULT less 10 (all but the TAPE stays).")
    static void p05_fault_leavesAllButTheTape() {
        for (String text : FAULTS) {
            stays(text, Cases::goal);
        }
    }

    private static void stays(String text, Taker taker) {
        BitWells x = Cases.emptyTape(Cases.rich());
        List<Long> before = Cases.digest(x);
        Cases.so("a fault", true, taker.take(x, text) < 0);
        before.set(before.size() - 3, (long) x.fault());
        Cases.same("a faulty text", before, Cases.digest(x));
    }

    @Cases.Says("or the FAULT less 10 (all but the TAPE stays).")
    static void p04_fault_aQuestionWithoutATextStaysWithout() {
        BitWells x = Cases.land("place;well 0 a;");
        Cases.due("a fault", -9, Cases.question(x, 0, "a or"));
        Cases.due("no text to part by", -1, x.parts(0, 0));
    }

    @Cases.Says("or the FAULT less 10 (all but the TAPE stays).")
    static void p05_fault_theGoalWithoutATextStaysWithout() {
        BitWells x = Cases.land("place;well 0 a;");
        Cases.due("a fault", -9, Cases.goal(x, "a or"));
        Cases.due("never so", 0, x.known(0));
    }

    // ---- as they were then

    @Cases.Says(LIKEWISE)
    static void p04_another_theDiaryTellsOfItAsItWasThen() {
        BitWells x = Cases.land("atoms 2;place;well 0 ab;is 1;", "a");
        Cases.due("yes", 1, x.ask(0, 0, 0));
        Cases.question(x, 0, "b");
        Cases.due("a in all", 0xA, x.left());
        Cases.due("the new one", 0, x.ask(0, 0, 1));
        Cases.due("a, not b", 2, x.left());
        Cases.due("behind the first", 2, x.diary(0, 3));
    }

    @Cases.Says(LIKEWISE)
    static void p04_another_theHearsayTellsOfItAsItWasThen() {
        BitWells x = Cases.land("atoms 2;place;well 0 ab;is 1;", "a");
        x.hear(0, 0, 0, 1);
        Cases.question(x, 0, "b");
        Cases.due("a in all", 0xA, x.trusted());
        x.hear(0, 0, 0, 0);
        Cases.due("a, not b", 2, x.trusted());
    }

    @Cases.Says(LIKEWISE)
    static void p04_another_theDiaryTellsOfItAsItWasWithoutAText() {
        BitWells x = Cases.land("atoms 1;place;well 0 a;well 0 a;vein 0 1 0 9;is 0;");
        Cases.due("a lie", 1, x.ask(0, 0, 0));
        Cases.question(x, 0, "a");
        Cases.due("the first told lies", 3, x.left());
    }

    @Cases.Says(GOAL)
    static void p05_another_theNewOneCounts() {
        BitWells x = Cases.aim(Cases.land("atoms 1;place;well 0 a;"), "a and not a");
        Cases.due("never so", 0, x.known(0));
        Cases.aim(x, "a or not a");
        Cases.due("always so", 1, x.known(0));
    }
}
