import java.util.NoSuchElementException;

/** For each promise of the document ordinary inputs, the edges that it names, and wrong inputs. */
public final class PromisesTest {
    private static final String NO_ELEMENT = "NoSuchElementException";
    private static final String WRONG = "IllegalArgumentException";
    private static int wrong = 0;
    private static int checks = 0;
    private static int promise = 0;

    private interface Call {
        long answer();
    }

    private interface Truth {
        boolean answer();
    }

    private static void note(String what, String got, String want) {
        checks++;
        if (!got.equals(want)) {
            wrong++;
            System.out.println("promise " + promise + ": " + what + " answered " + got + ", due is " + want);
        }
    }

    private static String run(Call call) {
        try {
            return "" + call.answer();
        } catch (NoSuchElementException e) {
            return NO_ELEMENT;
        } catch (IllegalArgumentException e) {
            return WRONG;
        } catch (RuntimeException e) {
            return e.getClass().getName();
        }
    }

    private static void due(String what, long want, Call call) {
        note(what, run(call), "" + want);
    }

    private static void so(String what, boolean want, Truth call) {
        note(what, run(() -> call.answer() ? 1 : 0), want ? "1" : "0");
    }

    private static void refused(String what, String want, Call call) {
        note(what, run(call), want);
    }

    private static void feed(BitWells x, String text) {
        for (int i = 0; i < text.length(); i += 20) {
            int[] five = new int[5];
            for (int k = 0; k < 20; k++) {
                int c = i + k < text.length() ? text.charAt(i + k) : 0;
                five[k / 4] = five[k / 4] << 8 | c;
            }
            x.feed(five[0], five[1], five[2], five[3], five[4]);
        }
    }

    private static int country(BitWells x, String text) {
        feed(x, text);
        return x.country(text.length());
    }

    private static int question(BitWells x, int q, String text) {
        feed(x, text);
        return x.question(q, text.length());
    }

    private static int goal(BitWells x, String text) {
        feed(x, text);
        return x.goal(text.length());
    }

    private static BitWells land(String text) {
        BitWells x = new BitWells();
        int got = country(x, text);
        if (got < 0) {
            note("country of " + text, got + " at " + x.fault(), "a country");
        }
        return x;
    }

    /** Three places in a row, a well that lies on odd days at the first, one of a, one of b. */
    private static BitWells three() {
        BitWells x = land("atoms 2;place;place;place;road 0 1 2;road 1 2 3;well 0 ab;well 1 a;well 2 b;"
                + "lies 0 2 1;dry 1 10 12;frost 20 21;is 1;");
        question(x, 0, "a and b");
        question(x, 1, "a");
        question(x, 2, "b");
        question(x, 3, "says 0 a");
        return x;
    }

    /** Text, the fault and its place, for a country. */
    private static void badCountry(String text, int kind, int place) {
        BitWells x = new BitWells();
        due("country of '" + text + "'", kind - 10, () -> country(x, text));
        due("its place", place, x::fault);
    }

    private static void badQuestion(BitWells x, String text, int kind, int place) {
        due("question of '" + text + "'", kind - 10, () -> question(x, 0, text));
        due("its place", place, x::fault);
    }

    public static void main(String[] args) {
        newObject();
        texts();
        countryClauses();
        countryFaults();
        phrases();
        phraseFaults();
        theCountry();
        answers();
        diaries();
        hearsays();
        askings();
        plans();
        roads();
        sales();
        codes();
        years();
        rest();
        images();
        refusals();
        System.out.println(checks + " checks, " + wrong + " answers are not as due");
        if (wrong != 0) {
            System.exit(1);
        }
    }

    private static void newObject() {
        promise = 1;
        BitWells x = new BitWells();
        int[] told = {4, 0, 0, 0, 16, 0, 0, 0};
        for (int what = 0; what < 8; what++) {
            int w = what;
            due("told " + w, told[w], () -> x.told(w));
        }
        due("count 0", 0, () -> x.count(0));
        due("count 1", 0, () -> x.count(1));
        due("status 0", 0, () -> x.status(0));
        due("status 1", 0, () -> x.status(1));
        due("fault", -1, x::fault);
        due("left", 65535, x::left);
        due("NONE", -1, () -> BitWells.NONE);
    }

    private static void texts() {
        promise = 2;
        BitWells x = new BitWells();
        for (int i = 1; i <= 30; i++) {
            int bytes = 20 * i;
            due("feed " + i, bytes, () -> x.feed(0x20202020, 0x20202020, 0x20202020, 0x20202020, 0x20202020));
        }
        due("feed past 600", -1, () -> x.feed(0, 0, 0, 0, 0));
        due("the tape stays", 600, () -> x.count(1));
        due("600 blanks", 0, () -> x.country(600));
        due("the tape is empty", 0, () -> x.count(1));
        due("feed anew", 20, () -> x.feed(0x706C6163, 0x653B706C, 0x6163653B, 0x80FF0041, 0xFFFFFFFF));
        due("highest byte first", 0, () -> x.country(12));
        due("two places", 2, () -> x.told(1));
        promise = 3;
        BitWells y = three();
        goal(y, "a");
        y.ask(0, 1, 0);
        y.hear(0, 1, 0, 1);
        y.offer(0, 0, 7);
        y.image();
        feed(y, "place;placx;");
        refused("more than the tape has", WRONG, () -> y.country(21));
        refused("less than 0", WRONG, () -> y.country(-1));
        due("the tape stays", 20, () -> y.count(1));
        due("fault of the latest text", -1, y::fault);
        due("faulty", -9, () -> y.country(12));
        due("its place", 6, y::fault);
        due("the tape is gone", 0, () -> y.count(1));
        due("all stays: wells", 3, () -> y.told(2));
        due("all stays: diary", 1, () -> y.told(6));
        due("all stays: hearsay", 1, () -> y.told(7));
        due("all stays: images", 1, () -> y.count(0));
        due("all stays: offers", 7, () -> y.offer(0, 0, 7));
        due("all stays: goal", 1, () -> y.known(0));
        due("all stays: question", 8, () -> y.states(0, 0));
        due("a new one", 1, () -> country(y, "place;well 0 a;"));
        due("no fault", -1, y::fault);
        due("no diary", 0, () -> y.told(6));
        due("no hearsay", 0, () -> y.told(7));
        due("no images", 0, () -> y.count(0));
        due("no image to restore", -1, y::restore);
        due("no offers", 0, () -> y.offer(0, 0, 0));
        due("no questions", 0, () -> y.states(1, 0));
        due("no question to part by", -1, () -> y.parts(0, 0));
        due("no goal", 0, () -> y.known(0));
        due("no bytes", 0, () -> y.country(0));
        due("no wells", 0, () -> y.told(2));
    }

    private static void countryClauses() {
        promise = 3;
        BitWells x = land("atoms3;place;place;place;road0 1 2;road 2 1 9;road 1 2 004;well 2 cab;well0a;"
                + "lies 0 30 29;lies 0 3 2;dry 1 0 364;dry 1 5 5;is 63;is 7;");
        due("N", 3, () -> x.told(0));
        due("the last road counts, both ways", 4, () -> x.far(2, 1));
        due("atoms of a well", 7, () -> x.well(0, 1));
        due("no blanks", 1, () -> x.well(1, 1));
        due("the last lies counts", 3, () -> x.well(0, 2));
        due("the last dry counts", 5, () -> x.well(1, 5));
        due("the last is counts", 7, () -> x.told(5));
        BitWells y = new BitWells();
        due("8 places, 6 wells, 2 veins", 6, () -> country(y, "atoms 4;" + "place;".repeat(8) + "well 7 abcd;".repeat(6)
                + "vein 0 5 0 364;vein 1 0 3 3;is 63;"));
        due("states", 64, () -> y.told(4));
        due("all of them", -1L, y::left);
        due("the state that is", 63, () -> y.told(5));
        due("60 clauses", 0, () -> country(y, "is 0;".repeat(60) + "  "));
        due("the last frost counts", 1, () -> country(y, "place;well 0 a;frost 0 364;frost 3 4;"));
        so("frost", true, () -> y.silent(0, 3));
        so("frost that counts no more", false, () -> y.silent(0, 5));
        due("the last days", 2, () -> country(y, "place;well 0 a;well 0 a;dry 0 364 364;vein 0 1 364 364;frost 364 364;"));
        so("frost on the last", true, () -> y.silent(1, 364));
        so("a vein on the last", true, () -> y.lies(0, 364, 0));
        due("H 1 to 9, D to 30", 1, () -> country(y, "place;place;road 0 1 9;road 0 1 1;well 0 d;lies 0 30 29;"));
        due("X that a later vein makes a state", 2, () -> country(y, "atoms 1;is 3;place;well 0 a;well 0 a;vein 0 1 0 0;"));
        due("is", 3, () -> y.told(5));
    }

    private static void countryFaults() {
        promise = 3;
        badCountry("foo;", 1, 0);
        badCountry("  ;", 1, 2);
        badCountry("place", 1, 5);
        badCountry("place   ", 1, 8);
        badCountry("place 5;", 1, 6);
        badCountry("place;;", 1, 6);
        badCountry("Place;", 1, 0);
        badCountry("place;" + (char) 233, 1, 6);
        badCountry("atoms ;", 1, 6);
        badCountry("atoms", 1, 5);
        badCountry("atoms x;", 1, 6);
        badCountry("atoms 0;", 2, 6);
        badCountry("atoms 5;", 2, 6);
        badCountry("atoms 99999999999999999999;", 2, 6);
        badCountry("atoms 4294967297;", 2, 6);
        badCountry("atoms -1;", 1, 6);
        badCountry("atoms 2;atoms 2;", 4, 8);
        badCountry("is 0;atoms 9;", 4, 5);
        badCountry("place;place;road 0 2 1;", 2, 19);
        badCountry("place;place;road 2 0 1;", 2, 17);
        badCountry("place;place;road 1 1 1;", 2, 19);
        badCountry("place;place;road 0 1 0;", 2, 21);
        badCountry("place;place;road 0 1 10;", 2, 21);
        badCountry("place;place;road 0 1;", 1, 20);
        badCountry("well 0 a;", 2, 5);
        badCountry("place;well 0 ;", 1, 13);
        badCountry("place;well 0 A;", 1, 13);
        badCountry("place;well 0 e;", 2, 13);
        badCountry("place;well 0 aba;", 2, 13);
        badCountry("place;well 0 az;", 2, 13);
        badCountry("frost 0 365;", 2, 8);
        badCountry("atoms 2;place;well 0 abc;", 2, 21);
        badCountry("place;well 0 aB;", 1, 14);
        badCountry("place;well 0 a;lies 1 1 0;", 2, 20);
        badCountry("place;well 0 a;lies 0 0 0;", 2, 22);
        badCountry("place;well 0 a;lies 0 31 0;", 2, 22);
        badCountry("place;well 0 a;lies 0 1 1;", 2, 24);
        badCountry("place;well 0 a;lies 1 3 2;", 2, 20);
        badCountry("place;well 0 a;dry 1 3 4;", 2, 19);
        badCountry("place;well 0 a;well 0 a;vein 2 0 1 2;", 2, 29);
        badCountry("place;well 0 a;well 0 a;vein 9 1 0 5;", 2, 29);
        badCountry("place;well 0 a;well 0 a;vein x 1 0 5;", 1, 29);
        badCountry("place;well 0 a;well 0 a;vein 0 1 5 365;", 2, 35);
        badCountry("place;well 0 a;dry 0 365 365;", 2, 21);
        badCountry("place;well 0 a;dry 0 0 365;", 2, 23);
        badCountry("place;well 0 a;dry 0 9 8;", 2, 23);
        badCountry("place;well 0 a;well 0 a;vein 0 0 1 2;", 2, 31);
        badCountry("place;well 0 a;well 0 a;vein 0 2 1 2;", 2, 31);
        badCountry("place;well 0 a;well 0 a;vein 0 1 2 1;", 2, 35);
        badCountry("place;well 0 a;well 0 a;vein 0 1 365 1;", 2, 33);
        badCountry("frost 365 365;", 2, 6);
        badCountry("frost 3 2;", 2, 8);
        badCountry("is 64;", 2, 3);
        badCountry("is 16;", 4, 6);
        badCountry("is 16;  ", 4, 8);
        badCountry("is 16;place", 1, 11);
        badCountry("atoms 1;is 2;", 4, 13);
        badCountry("is 0;".repeat(60) + "is 0;", 3, 300);
        badCountry("is 0;".repeat(60) + "atoms 1;", 3, 300);
        badCountry("is 0;".repeat(60) + "foo;", 1, 300);
        badCountry("is 0;".repeat(60) + ";", 1, 300);
        badCountry("place;".repeat(8) + "place;", 3, 48);
        badCountry("place;" + "well 0 a;".repeat(6) + "well 0 zz;", 3, 60);
        badCountry("place;well 0 a;well 0 a;" + "vein 0 1 0 1;".repeat(3), 3, 50);
    }

    private static void phrases() {
        promise = 4;
        BitWells x = land("atoms 3;place;well 0 abc;well 0 a;lies 1 2 1;dry 0 9 9;");
        due("question 0", 1, () -> question(x, 0, "a or b and c"));
        due("and binds more than or", 0b11101010, () -> x.states(0, 0));
        question(x, 0, "[a or b]and c");
        due("brackets", 0b11100000, () -> x.states(0, 0));
        question(x, 0, "not a and b");
        due("not takes one", 0b01000100, () -> x.states(0, 0));
        question(x, 0, "if a then b or c");
        due("if takes one", 0b11111101, () -> x.states(0, 0));
        question(x, 0, "if a then if b then c");
        due("if in if", 0b11110111, () -> x.states(0, 0));
        question(x, 0, "says 1 a");
        due("says, true", 0b10101010, () -> x.states(0, 0));
        due("says, lying", 0b01010101, () -> x.states(0, 1));
        question(x, 0, "says 1 b");
        due("says of what it doesn't know", 0, () -> x.states(0, 0));
        question(x, 0, "says 0 c");
        due("says of a silent one", 0, () -> x.states(0, 9));
        question(x, 0, "says 1 says 1 a");
        due("a liar about itself", 0b10101010, () -> x.states(0, 1));
        question(x, 0, "says 0 says 1 a");
        due("says of another", 0, () -> x.states(0, 0));
        question(x, 0, "not says 0 says 1 a");
        due("not says of another", 255, () -> x.states(0, 0));
        question(x, 0, "  says1[a]  ");
        due("blanks or none", 0b10101010, () -> x.states(0, 0));
        question(x, 5, "c");
        due("question 5", 0b11110000, () -> x.states(5, 0));
        due("question 4 has no text", 0, () -> x.states(4, 0));
        due("fault", -1, x::fault);
        String most = "a" + " ".repeat(149);
        due("150 bytes", 1, () -> question(x, 1, most));
        feed(x, most + " ");
        refused("151 bytes", WRONG, () -> x.question(1, 151));
        refused("n past the tape", WRONG, () -> x.question(1, 161));
        refused("n below 0", WRONG, () -> x.question(1, -1));
        refused("question 6", WRONG, () -> x.question(6, 1));
        refused("question -1", WRONG, () -> x.question(-1, 1));
        due("the tape stays", 160, () -> x.count(1));
        due("the first byte alone", 1, () -> x.question(2, 1));
        due("the tape is empty", 0, () -> x.count(1));
        due("a text that is bad", -9, () -> question(x, 2, "a a"));
        due("leaves the question", 0b10101010, () -> x.states(2, 0));
        promise = 5;
        due("goal", 1, () -> goal(x, "a and not a"));
        due("never so", 0, () -> x.known(0));
        due("goal anew", 1, () -> goal(x, "a or not a"));
        due("always so", 1, () -> x.known(0));
        due("a goal that is bad", -9, () -> goal(x, ""));
        due("its place", 0, x::fault);
        due("leaves the goal", 1, () -> x.known(0));
        feed(x, most + " ");
        refused("151 bytes", WRONG, () -> x.goal(151));
        refused("n below 0", WRONG, () -> x.goal(-1));
        refused("n past the tape", WRONG, () -> x.goal(161));
        due("150 bytes", 1, () -> x.goal(150));
    }

    private static void phraseFaults() {
        promise = 4;
        BitWells x = land("atoms 2;place;well 0 ab;well 0 a;");
        badQuestion(x, "", 1, 0);
        badQuestion(x, "   ", 1, 3);
        badQuestion(x, "c", 1, 0);
        badQuestion(x, "ab", 1, 0);
        badQuestion(x, "aa", 1, 0);
        badQuestion(x, "a or", 1, 4);
        badQuestion(x, "a or ", 1, 5);
        badQuestion(x, "a and or b", 1, 6);
        badQuestion(x, "a b", 1, 2);
        badQuestion(x, "a ora", 1, 2);
        badQuestion(x, "[a", 1, 2);
        badQuestion(x, "[a b]", 1, 3);
        badQuestion(x, "a]", 1, 1);
        badQuestion(x, "[]", 1, 1);
        badQuestion(x, "if a b", 1, 5);
        badQuestion(x, "if a and b then a", 1, 5);
        badQuestion(x, "if a", 1, 4);
        badQuestion(x, "if a then", 1, 9);
        badQuestion(x, "then", 1, 0);
        badQuestion(x, "says a", 1, 5);
        badQuestion(x, "says", 1, 4);
        badQuestion(x, "says 2 a", 2, 5);
        badQuestion(x, "says 0", 1, 6);
        badQuestion(x, "says 00000000000000000002 a", 2, 5);
        badQuestion(x, "nota", 1, 0);
        badQuestion(x, "A", 1, 0);
        badQuestion(x, "5", 1, 0);
        badQuestion(x, "not not not not not not not a", 3, 24);
        badQuestion(x, "[[[[[[[a]]]]]]]", 3, 6);
        badQuestion(x, "[not if a then says 0 [not [a]]]", 3, 27);
        badQuestion(x, "if not a then not not not not not if a then a", 3, 34);
        badQuestion(x, "not not not not not not says 9 a", 3, 24);
        due("six open at a time", 1, () -> question(x, 0, "[not [not [not a]]] or [not [not [not b]]]"));
        due("an if is closed behind its second", 1, () -> question(x, 0, "[[[[[if a then b or [a]]]]]]"));
        due("an if is open in its first", -7, () -> question(x, 0, "[[[[[if [a] then b]]]]]"));
        due("its place", 8, x::fault);
        BitWells none = new BitWells();
        badQuestion(none, "says 0 a", 2, 5);
        promise = 6;
        due("fault of the latest text", 5, none::fault);
        country(none, "");
        due("none", -1, none::fault);
    }

    private static void theCountry() {
        BitWells x = land("atoms 2;place;place;place;place;road 0 1 9;road 1 2 2;road 0 2 3;well 3 b;well 1 ab;well 0 a;"
                + "lies 1 7 3;dry 1 4 5;vein 0 1 3 10;vein 1 0 5 6;frost 300 364;is 9;");
        question(x, 0, "a");
        promise = 7;
        int[] told = {2, 4, 3, 2, 16, 9, 0, 0};
        for (int what = 0; what < 8; what++) {
            int w = what;
            due("told " + w, told[w], () -> x.told(w));
        }
        refused("told -1", WRONG, () -> x.told(-1));
        refused("told 8", WRONG, () -> x.told(8));
        promise = 8;
        int[] first = {3, 2, 0, 0, -1, -1};
        int[] second = {1, 3, 7, 3, 4, 5};
        for (int what = 0; what < 6; what++) {
            int w = what;
            due("well 0, " + w, first[w], () -> x.well(0, w));
            due("well 1, " + w, second[w], () -> x.well(1, w));
        }
        refused("well 3", NO_ELEMENT, () -> x.well(3, 0));
        refused("well -1", NO_ELEMENT, () -> x.well(-1, 9));
        refused("what 6", WRONG, () -> x.well(0, 6));
        refused("what -1", WRONG, () -> x.well(0, -1));
        promise = 9;
        due("by the least way", 5, () -> x.far(0, 1));
        due("back", 5, () -> x.far(1, 0));
        due("a road", 3, () -> x.far(2, 0));
        due("no way", -1, () -> x.far(0, 3));
        due("where one is", 0, () -> x.far(3, 3));
        refused("place 4", NO_ELEMENT, () -> x.far(4, 0));
        refused("other 4", NO_ELEMENT, () -> x.far(0, 4));
        refused("other -1", NO_ELEMENT, () -> x.far(0, -1));
        promise = 10;
        so("by itself and a vein is none", false, () -> x.lies(1, 3, 4));
        so("by itself alone", true, () -> x.lies(1, 3, 0));
        so("by a vein alone", true, () -> x.lies(1, 4, 4));
        so("by two veins is none", false, () -> x.lies(1, 5, 4));
        so("by the second vein", true, () -> x.lies(1, 6, 0));
        so("the other by both", false, () -> x.lies(0, 6, 8));
        so("by itself, no vein", true, () -> x.lies(1, 17, 15));
        so("behind a vein's days", false, () -> x.lies(0, 11, 0));
        so("a vein's last day", true, () -> x.lies(0, 10, 0));
        so("silent ones lie too", true, () -> x.lies(1, 304, 0));
        refused("day 365", WRONG, () -> x.lies(0, 365, 0) ? 1 : 0);
        refused("day -1", WRONG, () -> x.lies(0, -1, 0) ? 1 : 0);
        refused("state 16", WRONG, () -> x.lies(0, 0, 16) ? 1 : 0);
        refused("state -1", WRONG, () -> x.lies(0, 0, -1) ? 1 : 0);
        refused("well ahead of others", NO_ELEMENT, () -> x.lies(3, 365, 16) ? 1 : 0);
        promise = 11;
        so("ahead of dry", false, () -> x.silent(1, 3));
        so("dry", true, () -> x.silent(1, 4));
        so("dry to the end", true, () -> x.silent(1, 5));
        so("behind dry", false, () -> x.silent(1, 6));
        so("another is not", false, () -> x.silent(2, 4));
        so("ahead of frost", false, () -> x.silent(0, 299));
        so("frost", true, () -> x.silent(0, 300));
        so("frost to the end", true, () -> x.silent(2, 364));
        refused("no well", NO_ELEMENT, () -> x.silent(3, 400) ? 1 : 0);
        refused("no day", WRONG, () -> x.silent(0, 365) ? 1 : 0);
    }

    private static void answers() {
        BitWells x = three();
        promise = 12;
        due("a and b", 8, () -> x.states(0, 0));
        due("says on a true day", 10, () -> x.states(3, 0));
        due("says on a lying day", 5, () -> x.states(3, 1));
        due("says in frost", 0, () -> x.states(3, 20));
        due("without a text", 0, () -> x.states(5, 0));
        refused("no question", WRONG, () -> x.states(6, 0));
        refused("no day", WRONG, () -> x.states(0, 365));
        BitWells all = land("place;well 0 a;well 0 a;vein 0 1 0 9;vein 0 1 0 9;");
        question(all, 0, "a or not a");
        due("64 states", -1L, () -> all.states(0, 0));
        promise = 13;
        so("all of it", true, () -> x.knows(0, 0));
        so("a part of it", false, () -> x.knows(1, 0));
        so("its own says", true, () -> x.knows(0, 3));
        so("another's says", false, () -> x.knows(1, 3));
        so("no text", true, () -> x.knows(2, 5));
        refused("no well", NO_ELEMENT, () -> x.knows(3, 6) ? 1 : 0);
        refused("no question", WRONG, () -> x.knows(0, 6) ? 1 : 0);
        promise = 14;
        due("no", 0, () -> x.says(0, 0, 0, 1));
        due("a lie", 1, () -> x.says(0, 0, 1, 1));
        due("dry", 2, () -> x.says(1, 1, 11, 1));
        due("frost", 2, () -> x.says(0, 1, 21, 1));
        due("not known", 2, () -> x.says(1, 2, 0, 3));
        due("yes", 1, () -> x.says(2, 2, 0, 2));
        due("a liar about its lie", 1, () -> x.says(0, 3, 1, 1));
        due("a lie about no text", 1, () -> x.says(0, 5, 1, 0));
        due("no text", 0, () -> x.says(0, 5, 0, 0));
        refused("no well", NO_ELEMENT, () -> x.says(-1, 9, 9, 9));
        refused("no question", WRONG, () -> x.says(0, 6, 0, 0));
        refused("no day", WRONG, () -> x.says(0, 0, 365, 0));
        refused("no state", WRONG, () -> x.says(0, 0, 0, 4));
    }

    private static void diaries() {
        BitWells x = three();
        goal(x, "a");
        promise = 15;
        due("asked", 1, () -> x.ask(1, 1, 0));
        due("asked again", -1, () -> x.ask(1, 2, 0));
        due("another on that day", 0, () -> x.ask(2, 2, 0));
        due("another day", 1, () -> x.ask(0, 2, 1));
        due("silent", 2, () -> x.ask(1, 1, 10));
        due("silent, asked again", -1, () -> x.ask(1, 1, 10));
        refused("no well", NO_ELEMENT, () -> x.ask(3, 9, 9));
        refused("no question", WRONG, () -> x.ask(0, -1, 0));
        refused("no day", WRONG, () -> x.ask(0, 0, 365));
        promise = 16;
        due("left", 2, x::left);
        promise = 17;
        due("how many", 1, x::leftMany);
        promise = 20;
        int[][] diary = {{1, 0, 1, 2}, {2, 0, 0, 1}, {0, 1, 1, 1}, {1, 10, 2, 1}};
        for (int i = 0; i < 4; i++) {
            for (int what = 0; what < 4; what++) {
                int k = i;
                int w = what;
                due("diary " + k + ", " + w, diary[k][w], () -> x.diary(k, w));
            }
        }
        due("none such", -1, () -> x.diary(4, 0));
        due("none such", -1, () -> x.diary(-1, 3));
        refused("what 4", WRONG, () -> x.diary(0, 4));
        refused("what -1, none such", WRONG, () -> x.diary(99, -1));
        question(x, 1, "b");
        promise = 4;
        due("the diary is of questions as they were", 2, x::left);
        promise = 21;
        due("none from there on", 0, () -> x.tear(4));
        due("from the third on", 2, () -> x.tear(2));
        due("asked anew", 2, () -> x.ask(1, 1, 10));
        due("two", 2, () -> x.tear(1));
        due("left", 10, x::left);
        due("all", 1, () -> x.tear(-5));
        due("all are left", 15, x::left);
        due("none", 0, () -> x.tear(0));
        promise = 15;
        for (int day = 0; day < 60; day++) {
            int d = 30 + day;
            due("asked, " + d, 0, () -> x.ask(2, 2, d));
        }
        due("full", -2, () -> x.ask(2, 2, 0));
        due("full, but asked", -1, () -> x.ask(2, 2, 30));
        due("60", 60, () -> x.told(6));
        knowings();
        weights();
    }

    private static void knowings() {
        BitWells x = land("atoms 1;place;well 0 a;well 0 a;vein 0 1 5 9;is 3;");
        question(x, 0, "a");
        promise = 18;
        due("no goal", 0, () -> x.known(0));
        goal(x, "a");
        due("in some", 2, () -> x.known(0));
        promise = 19;
        due("either", 2, () -> x.vein(0));
        refused("no vein", WRONG, () -> x.vein(1));
        refused("no vein", WRONG, () -> x.vein(-1));
        x.ask(0, 0, 4);
        x.ask(1, 0, 5);
        due("the other lies", 1, () -> x.vein(0));
        promise = 18;
        due("in all", 1, () -> x.known(364));
        x.be(0);
        x.tear(1);
        due("still in all", 1, () -> x.known(0));
        due("what contradicts", 0, () -> x.ask(0, 0, 3));
        due("none left", -1, () -> x.known(0));
        promise = 19;
        due("none left", -1, () -> x.vein(0));
        promise = 16;
        due("none left", 0, x::left);
        x.tear(0);
        x.be(1);
        x.ask(0, 0, 5);
        x.ask(0, 0, 4);
        promise = 19;
        due("the first told lies", 0, () -> x.vein(0));
        x.tear(0);
        x.be(0);
        x.ask(1, 0, 0);
        promise = 18;
        due("in none", 0, () -> x.known(0));
        refused("no day", WRONG, () -> x.known(365));
    }

    private static void weights() {
        promise = 22;
        BitWells x = land("atoms 3;place;well 0 abc;");
        due("none", -1, x::weightiest);
        question(x, 0, "a");
        question(x, 1, "b and c");
        question(x, 2, "b");
        x.ask(0, 0, 0);
        due("the only one", 0, x::weightiest);
        x.ask(0, 1, 1);
        due("the half weighs more than the quarter", 0, x::weightiest);
        x.ask(0, 2, 2);
        x.ask(0, 0, 3);
        due("what is told twice weighs nothing", 2, x::weightiest);
        promise = 52;
        due("the fewest", 0b0101, x::brief);
        x.tear(0);
        due("none", 0, x::brief);
        x.ask(0, 5, 0);
        due("what tells nothing", 0, x::brief);
        x.ask(0, 1, 1);
        x.ask(0, 2, 2);
        due("one makes up for another", 0b100, x::brief);
        x.tear(0);
        for (int day = 0; day < 12; day++) {
            x.ask(0, day == 11 ? 0 : 2, day);
        }
        due("twelve", 0b100000000001, x::brief);
        x.ask(0, 0, 12);
        due("thirteen", -1, x::brief);
    }

    private static void hearsays() {
        BitWells x = three();
        promise = 23;
        due("one", 1, () -> x.hear(1, 1, 0, 1));
        due("two", 2, () -> x.hear(2, 2, 0, 1));
        promise = 24;
        due("none false", 0, () -> x.hearsay(0));
        due("none false", 0, () -> x.hearsay(1));
        promise = 25;
        due("a and b", 8, x::trusted);
        promise = 23;
        due("a well that is silent said yes", 3, () -> x.hear(1, 1, 11, 1));
        due("a well that is silent said perhaps", 4, () -> x.hear(1, 1, 11, 2));
        due("not a", 5, () -> x.hear(1, 1, 1, 0));
        promise = 24;
        due("two are false", 2, () -> x.hearsay(0));
        due("the least bits", 0b00101, () -> x.hearsay(1));
        promise = 25;
        due("b alone", 4, x::trusted);
        promise = 24;
        x.ask(1, 1, 5);
        due("by what is left", 0b10100, () -> x.hearsay(1));
        question(x, 1, "b");
        due("of questions as they were", 0b10100, () -> x.hearsay(1));
        question(x, 1, "a");
        refused("what 2", WRONG, () -> x.hearsay(2));
        refused("what -1", WRONG, () -> x.hearsay(-1));
        promise = 23;
        refused("no well", NO_ELEMENT, () -> x.hear(3, 9, 9, 9));
        refused("no question", WRONG, () -> x.hear(0, 6, 0, 0));
        refused("no day", WRONG, () -> x.hear(0, 0, -1, 0));
        refused("said 3", WRONG, () -> x.hear(0, 0, 0, 3));
        refused("said -1", WRONG, () -> x.hear(0, 0, 0, -1));
        for (int i = 6; i <= 10; i++) {
            int many = i;
            due("hearsay " + i, many, () -> x.hear(0, 0, 0, 0));
        }
        due("an eleventh", -1, () -> x.hear(0, 0, 0, 0));
        refused("an eleventh that is wrong", WRONG, () -> x.hear(0, 0, 0, 3));
        promise = 26;
        due("all go", 10, x::deaf);
        due("none go", 0, x::deaf);
        due("none are there", 0, () -> x.told(7));
        promise = 24;
        x.be(0);
        x.ask(1, 1, 6);
        due("none left", -1, () -> x.hearsay(0));
        due("none left", -1, () -> x.hearsay(1));
        promise = 25;
        due("none left", 0, x::trusted);
    }

    private static void askings() {
        BitWells x = three();
        goal(x, "a");
        promise = 27;
        due("at the worst", 2, () -> x.parts(0, 0));
        due("the first", 1, () -> x.parts(0, 1));
        due("in frost", 4, () -> x.parts(20, 0));
        due("in frost the first", 0, () -> x.parts(20, 1));
        refused("no day", WRONG, () -> x.parts(365, 0));
        refused("no what", WRONG, () -> x.parts(0, 2));
        BitWells bare = new BitWells();
        due("no wells", -1, () -> bare.parts(0, 0));
        question(bare, 0, "a");
        due("no wells, a question", -1, () -> bare.parts(0, 1));
        country(bare, "place;well 0 a;");
        due("no questions", -1, () -> bare.parts(0, 1));
        promise = 28;
        due("one", 1, () -> x.enough(0, 0));
        due("the later well is first", 20, () -> x.enough(0, 1));
        due("but if it is dry", 200, () -> x.enough(11, 1));
        due("frost", -1, () -> x.enough(20, 0));
        due("frost", -1, () -> x.enough(20, 1));
        refused("no day", WRONG, () -> x.enough(-1, 0));
        refused("no what", WRONG, () -> x.enough(0, -1));
        x.ask(1, 1, 0);
        due("known", 0, () -> x.enough(0, 0));
        due("known", 0, () -> x.enough(0, 1));
        manyAskings();
        promise = 29;
        x.tear(0);
        due("a question about itself too", 1, () -> x.trick(0, 1));
        due("one that tells", 1, () -> x.trick(1, 0));
        due("frost", -1, () -> x.trick(0, 20));
        due("one that can't", -1, () -> x.trick(2, 0));
        x.ask(1, 1, 0);
        due("known already", 0, () -> x.trick(0, 20));
        refused("no well", NO_ELEMENT, () -> x.trick(3, 365));
        refused("no day", WRONG, () -> x.trick(0, 365));
        promise = 30;
        x.tear(0);
        due("all can be told", -1, () -> x.cant(0, 0));
        due("frost", 0, () -> x.cant(20, 0));
        due("frost", 1, () -> x.cant(20, 1));
        refused("no day", WRONG, () -> x.cant(365, 0));
        refused("no what", WRONG, () -> x.cant(0, 2));
        goal(x, "[a and b] or [not a and not b]");
        question(x, 1, "says 0 a");
        question(x, 2, "a and not a");
        due("the pair", 0, () -> x.cant(11, 0));
        due("the pair", 2, () -> x.cant(11, 1));
        promise = 31;
        due("both", 3, () -> x.atoms(0));
        goal(x, "b or b");
        due("b", 2, () -> x.atoms(0));
        goal(x, "a or not a");
        due("none", 0, () -> x.atoms(0));
        goal(x, "says 0 a");
        due("in frost", 0, () -> x.atoms(20));
        due("by what it says", 1, () -> x.atoms(1));
        refused("no day", WRONG, () -> x.atoms(365));
        BitWells veined = land("atoms 1;place;well 0 a;well 0 a;vein 0 1 5 9;is 3;");
        goal(veined, "says 0 a");
        due("not even all", -1, () -> veined.atoms(5));
        due("off the vein", 1, () -> veined.atoms(4));
        yeses();
    }

    private static void manyAskings() {
        BitWells x = land("atoms 3;place;well 0 a;well 0 b;well 0 c;well 0 ab;");
        question(x, 0, "a");
        question(x, 1, "b");
        question(x, 2, "c");
        question(x, 5, "a and b");
        goal(x, "a and b");
        due("one asking", 1, () -> x.enough(0, 0));
        due("of the last", 6, () -> x.enough(0, 1));
        goal(x, "a and b and c");
        due("two askings", 2, () -> x.enough(0, 0));
        due("of the last two", 36, () -> x.enough(0, 1));
        goal(x, "a and c or b and not c");
        due("three askings", 3, () -> x.enough(0, 0));
        due("a from the last", 231, () -> x.enough(0, 1));
        BitWells four = land("place;well 0 d;well 0 c;well 0 b;well 0 a;well 0 abcd;dry 4 1 1;");
        for (int q = 0; q < 4; q++) {
            question(four, q, "" + (char) ('a' + q));
        }
        goal(four, "[if a then b] and [if b then a] and [if c then d] and [if d then c] or a and not b and c and not d");
        due("four askings", 4, () -> four.enough(1, 0));
        due("each its own", 43210, () -> four.enough(1, 1));
        due("the last one first", 4, () -> four.enough(0, 0));
        due("the last one first", 3214, () -> four.enough(0, 1));
        BitWells uneven = land("place;well 0 d;well 0 a;well 0 b;well 0 c;");
        for (int q = 0; q < 4; q++) {
            question(uneven, q, "" + (char) ('a' + q));
        }
        goal(uneven, "a and b or not a and [c and not d or d and not c]");
        due("one side needs more", 4, () -> uneven.enough(0, 0));
        due("all four", 4123, () -> uneven.enough(0, 1));
        BitWells six = land("place;well 0 a;well 0 b;well 0 c;well 0 d;well 0 a;well 0 c;vein 4 5 0 9;vein 2 3 0 9;");
        for (int q = 0; q < 4; q++) {
            question(six, q, "" + (char) ('a' + q));
        }
        goal(six, "says 0 a and says 1 b and says 2 c and says 3 d and says 4 a and says 5 c");
        due("six askings", 6, () -> six.enough(9, 0));
        due("each well", 123413, () -> six.enough(9, 1));
        due("behind the veins four", 4, () -> six.enough(10, 0));
        due("of the last ones", 20413, () -> six.enough(10, 1));
        goal(x, "says 3 a and says 0 b");
        due("never so", 0, () -> x.enough(0, 0));
        BitWells full = land("place;" + "well 0 a;".repeat(6));
        for (int q = 0; q < 6; q++) {
            question(full, q, "b");
        }
        goal(full, "a");
        due("no well knows the questions", -1, () -> full.enough(0, 0));
        promise = 28;
        BitWells none = new BitWells();
        goal(none, "a");
        due("no wells", -1, () -> none.enough(0, 0));
        BitWells lied = land("place;well 0 a;");
        question(lied, 0, "a");
        goal(lied, "a");
        lied.ask(0, 0, 0);
        lied.be(1);
        lied.ask(0, 0, 1);
        due("none left", 0, () -> lied.enough(0, 0));
        due("none left", 0, () -> lied.enough(0, 1));
        promise = 33;
        due("none left: all with a text", 1, () -> lied.yes(0, 0));
        promise = 32;
        due("none left: none needed", 0, () -> lied.plan(0, 0, 0));
        due("none left: none needed", -1, () -> lied.plan(0, 0, 1));
        promise = 27;
        due("none left", 0, () -> lied.parts(0, 0));
        promise = 51;
        due("none left: 0", 0, () -> lied.odds(0, 0));
        due("none left: by 1", 1, () -> lied.odds(0, 1));
        promise = 28;
    }

    private static void yeses() {
        promise = 33;
        BitWells x = three();
        question(x, 4, "a or not a");
        due("what is always so", 16, () -> x.yes(0, 0));
        due("what is never so, by a liar", 0, () -> x.yes(0, 1));
        x.ask(1, 1, 0);
        due("what is so in all that are left", 16 | 8 | 2, () -> x.yes(0, 0));
        due("what it knows", 16 | 2, () -> x.yes(1, 0));
        due("silent", 0, () -> x.yes(1, 10));
        refused("no well", NO_ELEMENT, () -> x.yes(3, 365));
        refused("no day", WRONG, () -> x.yes(0, 365));
        promise = 34;
        due("half", 2, () -> x.alike(1, 2, 0));
        due("a liar's", 0, () -> x.alike(1, 3, 1));
        due("of all, not of those left", 4, () -> x.alike(1, 3, 0));
        due("no texts", 4, () -> x.alike(5, 5, 0));
        due("with no text", 3, () -> x.alike(0, 5, 0));
        refused("no question", WRONG, () -> x.alike(6, 0, 0));
        refused("no other", WRONG, () -> x.alike(0, -1, 0));
        refused("no day", WRONG, () -> x.alike(0, 0, 365));
        promise = 44;
        x.tear(0);
        goal(x, "a");
        due("each can be spared", 7, () -> x.spare(0));
        due("but where one is dry", 6, () -> x.spare(11));
        due("frost", 7, () -> x.spare(20));
        goal(x, "b");
        due("b by two", 7, () -> x.spare(0));
        x.ask(1, 1, 0);
        due("by what is left", 7, () -> x.spare(0));
        refused("no day", WRONG, () -> x.spare(365));
        due("no wells", 0, () -> new BitWells().spare(0));
        BitWells y = land("atoms 2;place;well 0 a;well 0 b;");
        question(y, 0, "a");
        question(y, 1, "b");
        goal(y, "a and b");
        due("none can be spared", 0, () -> y.spare(0));
        goal(y, "a");
        due("the one that is not asked", 2, () -> y.spare(0));
        promise = 51;
        due("a half", 1, () -> y.odds(0, 0));
        goal(y, "a or b");
        due("three", 3, () -> y.odds(0, 0));
        due("of four", 4, () -> y.odds(0, 1));
        goal(y, "a");
        due("one", 1, () -> y.odds(0, 0));
        due("of two", 2, () -> y.odds(0, 1));
        goal(y, "a and not a");
        due("none", 0, () -> y.odds(0, 0));
        due("of one", 1, () -> y.odds(0, 1));
        refused("no day", WRONG, () -> y.odds(365, 0));
        refused("no what", WRONG, () -> y.odds(0, 2));
    }

    private static void plans() {
        promise = 32;
        BitWells x = three();
        goal(x, "a");
        due("at once", 0, () -> x.plan(0, 0, 0));
        due("well 0, question 1", 1, () -> x.plan(0, 0, 1));
        due("by a road", 3, () -> x.plan(2, 0, 0));
        due("well 1", 11, () -> x.plan(2, 0, 1));
        due("waiting by asking", 2, () -> x.plan(0, 20, 0));
        due("the first asking passes the day", 0, () -> x.plan(0, 20, 1));
        due("past the year", -1, () -> x.plan(2, 362, 0));
        due("past the year", -1, () -> x.plan(2, 362, 1));
        due("on the last day", 3, () -> x.plan(2, 361, 0));
        refused("no place", NO_ELEMENT, () -> x.plan(3, 365, 2));
        refused("no day", WRONG, () -> x.plan(0, 365, 0));
        refused("no what", WRONG, () -> x.plan(0, 0, 2));
        x.ask(1, 1, 0);
        due("none needed", 0, () -> x.plan(2, 5, 0));
        due("none needed", -1, () -> x.plan(2, 5, 1));
        BitWells y = land("atoms 3;place;place;road 0 1 4;well 0 ab;well 1 c;well 0 b;");
        question(y, 1, "a");
        question(y, 3, "b");
        question(y, 4, "c");
        goal(y, "a and b");
        due("one a day", 1, () -> y.plan(0, 0, 0));
        due("a first", 1, () -> y.plan(0, 0, 1));
        goal(y, "b and c");
        due("there, then by the road", 4, () -> y.plan(0, 0, 0));
        due("b first", 3, () -> y.plan(0, 0, 1));
        due("from there", 4, () -> y.plan(1, 0, 0));
        due("c first", 14, () -> y.plan(1, 0, 1));
        goal(y, "a and b and c");
        due("three askings", 5, () -> y.plan(0, 0, 0));
        BitWells four = land("place;well 0 abcd;");
        for (int q = 0; q < 4; q++) {
            question(four, q, "" + (char) ('a' + q));
        }
        goal(four, "a and b and c and d");
        due("four askings are too many", -1, () -> four.plan(0, 0, 0));
        question(four, 4, "c and d");
        due("three are not", 2, () -> four.plan(0, 0, 0));
        due("on the last days", 2, () -> four.plan(0, 362, 0));
        due("too late", -1, () -> four.plan(0, 363, 0));
        BitWells turning = land("atoms 1;place;well 0 a;dry 0 3 3;");
        question(turning, 2, "a and not a");
        goal(turning, "says 0 a");
        due("the goal as it is on the last day", 1, () -> turning.plan(0, 2, 0));
        due("by an asking that tells nothing", 2, () -> turning.plan(0, 2, 1));
        BitWells apart = land("place;place;well 1 a;");
        question(apart, 0, "a");
        goal(apart, "a");
        due("no way", -1, () -> apart.plan(0, 0, 0));
        BitWells mute = land("place;well 0 a;");
        goal(mute, "a");
        due("no questions", -1, () -> mute.plan(0, 0, 0));
    }

    private static void roads() {
        BitWells x = three();
        promise = 35;
        due("one rider", 5, () -> x.riders(0, 1, 7));
        due("two from the middle", 3, () -> x.riders(1, 2, 5));
        due("one from the middle", 7, () -> x.riders(1, 1, 5));
        due("three", 3, () -> x.riders(1, 3, 7));
        due("no wells told", 0, () -> x.riders(0, 1, 0));
        due("where one is", 0, () -> x.riders(0, 1, 1));
        refused("no rider", WRONG, () -> x.riders(0, 0, 1));
        refused("four riders", WRONG, () -> x.riders(0, 4, 1));
        refused("no such wells", WRONG, () -> x.riders(0, 1, 8));
        refused("below 0", WRONG, () -> x.riders(0, 1, -1));
        refused("no place", NO_ELEMENT, () -> x.riders(3, 9, 9));
        promise = 46;
        due("and back", 10, () -> x.tour(0, 7));
        due("from the middle", 10, () -> x.tour(1, 5));
        due("no wells told", 0, () -> x.tour(0, 0));
        due("one", 4, () -> x.tour(1, 1));
        refused("no such wells", WRONG, () -> x.tour(0, 8));
        refused("below 0", WRONG, () -> x.tour(0, -1));
        refused("no place", NO_ELEMENT, () -> x.tour(-1, 8));
        BitWells y = land("place;place;place;place;place;road 0 1 1;road 0 2 1;road 0 3 4;"
                + "well 1 a;well 2 a;well 3 a;well 4 a;well 1 a;");
        promise = 35;
        due("no way to one", -1, () -> y.riders(0, 3, 8));
        due("there and back again", 8, () -> y.riders(0, 1, 0b111));
        due("three riders", 4, () -> y.riders(0, 3, 0b10111));
        due("two riders", 4, () -> y.riders(0, 2, 0b10111));
        due("the one that can't be left", 0, () -> y.riders(4, 1, 8));
        promise = 46;
        due("no way to one", -1, () -> y.tour(0, 8));
        due("twice the same place", 12, () -> y.tour(0, 0b10111));
    }

    private static void sales() {
        BitWells x = three();
        promise = 36;
        due("was 0", 0, () -> x.offer(0, 0, 10));
        due("was 10", 10, () -> x.offer(0, 0, 99));
        due("was 99", 99, () -> x.offer(0, 0, 0));
        due("was 0", 0, () -> x.offer(0, 0, 10));
        refused("price 100", WRONG, () -> x.offer(0, 0, 100));
        refused("price -1", WRONG, () -> x.offer(0, 0, -1));
        refused("buyer 6", WRONG, () -> x.offer(6, 0, 1));
        refused("buyer -1", WRONG, () -> x.offer(-1, 0, 1));
        refused("no well", NO_ELEMENT, () -> x.offer(6, 3, 100));
        x.offer(1, 0, 8);
        x.offer(1, 1, 5);
        promise = 37;
        due("the most together", 0, () -> x.shared(0, 0));
        due("the other", 1, () -> x.shared(1, 0));
        due("no offer", -1, () -> x.shared(5, 0));
        due("dry", -1, () -> x.shared(1, 11));
        due("frost", -1, () -> x.shared(0, 20));
        refused("buyer 6", WRONG, () -> x.shared(6, 0));
        refused("no day", WRONG, () -> x.shared(0, 365));
        promise = 38;
        due("together", 15, () -> x.sold(0, 0));
        due("buyer 0 pays", 3, () -> x.sold(0, 1));
        due("buyer 1 pays", 0, () -> x.sold(0, 2));
        due("buyer 5 pays", 0, () -> x.sold(0, 6));
        due("dry", 10, () -> x.sold(11, 0));
        due("dry, buyer 0 pays", 8, () -> x.sold(11, 1));
        due("frost", 0, () -> x.sold(21, 0));
        refused("what 7", WRONG, () -> x.sold(0, 7));
        refused("what -1", WRONG, () -> x.sold(0, -1));
        refused("no day", WRONG, () -> x.sold(365, 0));
        promise = 37;
        x.offer(1, 0, 10);
        x.offer(1, 1, 0);
        due("of alike ones the first: nothing", -1, () -> x.shared(0, 0));
        due("and the other gets it", 0, () -> x.shared(1, 0));
        x.offer(0, 1, 4);
        x.offer(0, 2, 4);
        due("of wells the lesser", 1, () -> x.shared(0, 0));
        promise = 38;
        due("what others would get more", 6, () -> x.sold(0, 2));
    }

    private static void codes() {
        BitWells x = new BitWells();
        promise = 39;
        int[][] marks = {{1, 0, 1}, {2, 0, 1}, {3, 0, 2}, {256, 0, 8}, {129, 0, 8}, {128, 0, 7}, {2, 1, 2}, {128, 1, 8},
            {129, 1, -1}, {16, 2, 7}, {17, 2, -1}, {2, 3, 4}, {16, 3, 8}, {17, 3, -1}, {1, 3, 1}};
        for (int[] m : marks) {
            due("marks " + m[0] + ", " + m[1], m[2], () -> x.marks(m[0], m[1]));
        }
        refused("no words", WRONG, () -> x.marks(0, 0));
        refused("257 words", WRONG, () -> x.marks(257, 0));
        refused("4 lost", WRONG, () -> x.marks(1, 4));
        refused("-1 lost", WRONG, () -> x.marks(1, -1));
        promise = 40;
        int[][] words = {{1, 0, 0, 0}, {1, 0, 1, 1}, {1, 0, 2, -1}, {3, 2, 0, 0}, {3, 2, 1, 7}, {3, 2, 2, -1}, {4, 1, 1, 3},
            {4, 1, 7, 15}, {4, 1, 8, -1}, {7, 2, 1, 7}, {7, 2, 2, 25}, {7, 2, 3, 30}, {7, 2, 15, 127}, {7, 2, 16, -1},
            {8, 0, 255, 255}, {8, 0, 256, -1}, {8, 3, 1, 15}, {8, 3, 15, 255}, {5, 0, 2000000000, -1}, {5, 0, -1, -1}};
        for (int[] w : words) {
            due("code " + w[0] + ", " + w[1] + ", " + w[2], w[3], () -> x.code(w[0], w[1], w[2]));
        }
        refused("0 marks", WRONG, () -> x.code(0, 0, 0));
        refused("9 marks", WRONG, () -> x.code(9, 0, 0));
        refused("4 lost", WRONG, () -> x.code(1, 4, 0));
        refused("-1 lost", WRONG, () -> x.code(1, -1, 0));
    }

    private static int openDays(int seed, int q) {
        int open = 0;
        for (int day = 0; day < 365; day++) {
            seed = seed * 1103515245 + 12345;
            open += (seed >> 16 & 15) < q ? 0 : 1;
        }
        return open;
    }

    private static void years() {
        BitWells x = three();
        promise = 41;
        due("no frost more", 363, () -> x.year(0, 5, 0));
        due("dry too", 360, () -> x.year(1, 5, 0));
        due("all frost", 0, () -> x.year(0, 5, 16));
        BitWells y = land("place;well 0 a;");
        due("by a seed", openDays(77, 3), () -> y.year(0, 77, 3));
        due("by a seed below 0", openDays(-5, 9), () -> y.year(0, -5, 9));
        refused("q 17", WRONG, () -> x.year(0, 0, 17));
        refused("q -1", WRONG, () -> x.year(0, 0, -1));
        refused("no well", NO_ELEMENT, () -> x.year(3, 0, 17));
        promise = 42;
        due("frost alone", 2, () -> x.drought(5, 0));
        due("all frost", 365, () -> x.drought(5, 16));
        due("no wells", 0, () -> new BitWells().drought(5, 16));
        refused("q 17", WRONG, () -> new BitWells().drought(0, 17));
        refused("q -1", WRONG, () -> x.drought(0, -1));
        BitWells dry = land("place;well 0 a;well 0 a;dry 0 3 9;dry 1 7 20;");
        due("all wells at once", 3, () -> dry.drought(0, 0));
        promise = 43;
        due("what it was", 1, () -> x.be(3));
        due("what it was", 3, () -> x.be(0));
        refused("no state", WRONG, () -> x.be(4));
        refused("no state", WRONG, () -> x.be(-1));
        due("as it was", 0, () -> x.told(5));
    }

    private static void rest() {
        BitWells x = three();
        promise = 45;
        due("but for frost", 363, () -> x.parting(0, 1));
        due("but for frost and dry", 360, () -> x.parting(1, 1));
        due("not known", 0, () -> x.parting(1, 2));
        x.ask(1, 1, 0);
        due("by those left", 0, () -> x.parting(0, 1));
        due("by those left", 363, () -> x.parting(0, 0));
        refused("no well", NO_ELEMENT, () -> x.parting(3, 6));
        refused("no question", WRONG, () -> x.parting(0, 6));
        BitWells veined = land("atoms 1;place;well 0 a;well 0 a;vein 0 1 5 9;");
        due("a vein parts what has no text", 5, () -> veined.parting(0, 0));
        promise = 47;
        due("odd days", 182, () -> x.lying(0, 0));
        due("the first", 1, () -> x.lying(0, 1));
        due("never", 0, () -> x.lying(1, 0));
        due("never", -1, () -> x.lying(1, 1));
        due("by the state that is", 5, () -> veined.lying(0, 0));
        due("by the state that is", 5, () -> veined.lying(0, 1));
        veined.be(2);
        due("the other", -1, () -> veined.lying(0, 1));
        refused("no well", NO_ELEMENT, () -> x.lying(3, 2));
        refused("no what", WRONG, () -> x.lying(0, 2));
        promise = 48;
        due("on even days", 180, () -> x.agree(0, 1, 1));
        due("with itself", 363, () -> x.agree(0, 0, 3));
        due("perhaps is none", 0, () -> x.agree(0, 2, 0));
        refused("no well", NO_ELEMENT, () -> x.agree(3, 0, 6));
        refused("no other", NO_ELEMENT, () -> x.agree(0, 3, 6));
        refused("no question", WRONG, () -> x.agree(0, 0, 6));
        promise = 49;
        due("the one that knows all", 0, () -> x.learned(0));
        due("frost", -1, () -> x.learned(20));
        due("no wells", -1, () -> new BitWells().learned(0));
        BitWells y = land("place;well 0 a;well 0 b;well 0 ab;dry 2 5 5;");
        question(y, 3, "b");
        due("the first that knows it", 1, () -> y.learned(0));
        question(y, 4, "a");
        due("the one that knows both", 2, () -> y.learned(0));
        due("of those not silent the first", 0, () -> y.learned(5));
        refused("no day", WRONG, () -> y.learned(365));
        promise = 50;
        due("dry", 3, () -> x.waits(1, 10));
        due("frost", 1, () -> x.waits(0, 21));
        due("not silent", 0, () -> x.waits(1, 13));
        BitWells z = land("place;well 0 a;well 0 a;dry 0 3 9;frost 10 12;dry 1 360 364;");
        due("one behind the other", 10, () -> z.waits(0, 3));
        due("till the end", -1, () -> z.waits(1, 361));
        refused("no well", NO_ELEMENT, () -> x.waits(3, 365));
        refused("no day", WRONG, () -> x.waits(0, 365));
    }

    private static void images() {
        BitWells x = three();
        goal(x, "a");
        x.ask(1, 1, 0);
        x.hear(0, 1, 0, 0);
        x.offer(2, 1, 42);
        promise = 53;
        due("one", 1, x::image);
        x.be(3);
        question(x, 1, "b");
        goal(x, "b");
        x.ask(2, 2, 0);
        x.deaf();
        x.offer(2, 1, 1);
        due("two", 2, x::image);
        due("three", 3, x::image);
        due("a fourth", -1, x::image);
        due("count", 3, () -> x.count(0));
        promise = 54;
        due("two left", 2, x::restore);
        due("one left", 1, x::restore);
        due("as in the second", 3, () -> x.told(5));
        due("its diary", 2, () -> x.told(6));
        due("none left", 0, x::restore);
        due("the state", 1, () -> x.told(5));
        due("the question", 10, () -> x.states(1, 0));
        due("the goal", 1, () -> x.known(0));
        due("the diary", 1, () -> x.told(6));
        due("left", 10, x::left);
        due("the hearsay", 1, () -> x.told(7));
        due("false ones", 1, () -> x.hearsay(1));
        due("the offer", 42, () -> x.offer(2, 1, 0));
        due("there is none", -1, x::restore);
        due("an image anew", 1, x::image);
        promise = 55;
        BitWells y = three();
        y.image();
        run(() -> y.well(9, 9));
        run(() -> y.told(9));
        run(() -> y.told(9));
        y.restore();
        due("no image keeps it", 1, () -> y.status(0));
        due("no image keeps it", 2, () -> y.status(1));
        country(y, "");
        due("no country clears it", 2, () -> y.status(1));
        due("others", -1, () -> y.status(2));
        due("others", -1, () -> y.status(-1));
        promise = 56;
        due("no images", 0, () -> y.count(0));
        y.feed(0, 0, 0, 0, 0);
        due("bytes", 20, () -> y.count(1));
        due("others", -1, () -> y.count(2));
        due("others", -1, () -> y.count(-1));
    }

    /** Each call that may refuse is counted once, by its own reason. */
    private static void refusals() {
        promise = 55;
        BitWells x = three();
        Call[] elements = {() -> x.well(9, 9), () -> x.far(0, 9), () -> x.lies(9, 0, 0) ? 1 : 0, () -> x.ask(9, 9, 9),
            () -> x.hear(9, 9, 9, 9), () -> x.plan(9, 999, 9), () -> x.riders(9, 9, 9), () -> x.offer(9, 9, 999),
            () -> x.year(9, 0, 99), () -> x.agree(0, 9, 9), () -> x.tour(9, 99), () -> x.waits(9, 999)};
        for (Call call : elements) {
            refused("no such element", NO_ELEMENT, call);
        }
        due("so many", elements.length, () -> x.status(0));
        due("none of the others", 0, () -> x.status(1));
        Call[] arguments = {() -> x.country(1), () -> x.question(9, 9), () -> x.goal(9), () -> x.told(9), () -> x.well(0, 9),
            () -> x.ask(0, 9, 999), () -> x.hear(0, 9, 999, 9), () -> x.plan(0, 999, 9), () -> x.riders(0, 9, 99),
            () -> x.marks(0, 9), () -> x.code(9, 9, 9), () -> x.sold(999, 9), () -> x.odds(999, 9), () -> x.be(99)};
        for (Call call : arguments) {
            refused("wrong", WRONG, call);
        }
        due("so many", arguments.length, () -> x.status(1));
        due("none of the others", elements.length, () -> x.status(0));
    }
}
