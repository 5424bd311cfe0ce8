import java.util.Arrays;
import java.util.NoSuchElementException;

/**
 * Wells of one bit: a country of places, roads and wells that answer questions, lie by days and fall silent; what
 * their answers leave of the country's states, and how best to ask, ride, sell and write them down.
 *
 * <p>A set of states is a long, state 0 its lowest bit, so that a question is weighed in all states at once.
 */
public final class BitWells {
    public static final int NONE = -1;

    private static final int DAYS = 365;
    private static final int MOST_BYTES = 600;
    private static final int MOST_CLAUSES = 60;
    private static final int MOST_PLACES = 8;
    private static final int MOST_WELLS = 6;
    private static final int MOST_VEINS = 2;
    private static final int MOST_LETTERS = 4;
    private static final int MOST_STATES = 64;
    private static final int MOST_PHRASE = 150;
    private static final int MOST_OPEN = 6;
    private static final int MOST_ANSWERS = 60;
    private static final int MOST_BRIEF = 12;
    private static final int MOST_HEARSAY = 10;
    private static final int MOST_IMAGES = 3;
    private static final int MOST_ASKINGS = 3;
    private static final int MOST_PRICE = 99;
    private static final int MOST_RIDERS = 3;
    private static final int MOST_LOST = 3;
    private static final int MOST_MARKS = 8;
    private static final int MOST_WORDS = 256;
    private static final int MOST_FROST = 16;
    private static final int BUYERS = 6;
    private static final int QUESTIONS = 6;
    /** The goal is kept behind the questions, as one phrase more. */
    private static final int GOAL = 6;
    private static final int PHRASES = 7;

    private static final int NO = 0;
    private static final int YES = 1;
    private static final int PERHAPS = 2;

    private static final int FAULT_STRAY = 1;
    private static final int FAULT_VALUE = 2;
    private static final int FAULT_MANY = 3;
    private static final int FAULT_LATE = 4;
    private static final int FAULT_LESS = 10;

    /** The states in which the bit of that number is set. */
    private static final long[] BIT_STATES = {
        0xAAAAAAAAAAAAAAAAL, 0xCCCCCCCCCCCCCCCCL, 0xF0F0F0F0F0F0F0F0L,
        0xFF00FF00FF00FF00L, 0xFFFF0000FFFF0000L, 0xFFFFFFFF00000000L
    };

    private final byte[] tape;
    private int taped;
    private final Text text;
    private int faultPlace;
    private final Land land;
    private final Land draft;
    private final LandReader landReader;
    private final PhraseReader phraseReader;
    private final Book book;
    private final Book[] images;
    private int imageCount;
    private final Almanac almanac;
    private final Sifter sifter;
    private final Planner planner;
    private final Rides rides;
    private final Market market;
    private final int[] codeWords;
    private int refusedElements;
    private int refusedArguments;

    public BitWells() {
        byte[] bytes = new byte[MOST_BYTES];
        Text reading = new Text(bytes);
        Land country = new Land();
        Land tried = new Land();
        Book kept = new Book();
        Almanac days = new Almanac(country, kept);
        tape = bytes;
        text = reading;
        faultPlace = NONE;
        land = country;
        draft = tried;
        landReader = new LandReader(reading, tried);
        phraseReader = new PhraseReader(reading, country);
        book = kept;
        images = new Book[MOST_IMAGES];
        for (int i = 0; i < MOST_IMAGES; i++) {
            images[i] = new Book();
        }
        almanac = days;
        sifter = new Sifter(country, kept, days);
        planner = new Planner(country, kept, days);
        rides = new Rides(country);
        market = new Market(country, kept);
        codeWords = new int[MOST_WORDS];
    }

    // ---- texts

    public int feed(int a, int b, int c, int d, int e) {
        if (taped + 20 > MOST_BYTES) {
            return NONE;
        }
        putNumber(a);
        putNumber(b);
        putNumber(c);
        putNumber(d);
        putNumber(e);
        return taped;
    }

    private void putNumber(int number) {
        for (int shift = 24; shift >= 0; shift -= 8) {
            if (taped < MOST_BYTES) {
                tape[taped] = (byte) (number >>> shift);
                taped++;
            }
        }
    }

    public int country(int n) throws IllegalArgumentException {
        wantRight(n >= 0 && n <= taped);
        openText(n);
        boolean read = landReader.read();
        faultPlace = text.faultPlace;
        if (!read) {
            return text.faultKind - FAULT_LESS;
        }
        land.copyFrom(draft);
        book.clear(land.firstState);
        imageCount = 0;
        almanac.renew();
        return land.wellCount;
    }

    public int question(int question, int n) throws IllegalArgumentException {
        wantQuestion(question);
        return takePhrase(question, n);
    }

    public int goal(int n) throws IllegalArgumentException {
        return takePhrase(GOAL, n);
    }

    private int takePhrase(int slot, int n) {
        wantRight(n >= 0 && n <= taped && n <= MOST_PHRASE);
        openText(n);
        Phrase phrase = phraseReader.read();
        faultPlace = text.faultPlace;
        if (phrase == null) {
            return text.faultKind - FAULT_LESS;
        }
        book.phrases[slot] = phrase;
        almanac.renew();
        return 1;
    }

    private void openText(int n) {
        text.open(n);
        taped = 0;
    }

    public int fault() {
        return faultPlace;
    }

    // ---- the country

    public int told(int what) throws IllegalArgumentException {
        switch (what) {
            case 0:
                return land.letters;
            case 1:
                return land.placeCount;
            case 2:
                return land.wellCount;
            case 3:
                return land.veinCount;
            case 4:
                return land.stateCount;
            case 5:
                return book.stateNow;
            case 6:
                return book.answerCount;
            case 7:
                return book.hearsayCount;
            default:
                wantRight(false);
                return NONE;
        }
    }

    public int well(int well, int what) throws NoSuchElementException, IllegalArgumentException {
        wantWell(well);
        switch (what) {
            case 0:
                return land.wellPlace[well];
            case 1:
                return land.wellLetters[well];
            case 2:
                return land.liesEach[well];
            case 3:
                return land.liesRest[well];
            case 4:
                return land.dryFrom[well];
            case 5:
                return land.dryTo[well];
            default:
                wantRight(false);
                return NONE;
        }
    }

    public int far(int place, int other) throws NoSuchElementException {
        wantPlace(place);
        wantPlace(other);
        return land.way(place, other);
    }

    public boolean lies(int well, int day, int state) throws NoSuchElementException, IllegalArgumentException {
        wantWell(well);
        wantDay(day);
        wantState(state);
        return holds(almanac.lieOn(well, day), state);
    }

    public boolean silent(int well, int day) throws NoSuchElementException, IllegalArgumentException {
        wantWell(well);
        wantDay(day);
        return land.hushed(well, day);
    }

    // ---- questions and answers

    public long states(int question, int day) throws IllegalArgumentException {
        wantQuestion(question);
        wantDay(day);
        return almanac.soOn(question, day);
    }

    public boolean knows(int well, int question) throws NoSuchElementException, IllegalArgumentException {
        wantWell(well);
        wantQuestion(question);
        return almanac.masters(well, question);
    }

    public int says(int well, int question, int day, int state)
            throws NoSuchElementException, IllegalArgumentException {
        wantWell(well);
        wantQuestion(question);
        wantDay(day);
        wantState(state);
        return almanac.answer(well, question, day, state);
    }

    public int ask(int well, int question, int day) throws NoSuchElementException, IllegalArgumentException {
        wantWell(well);
        wantQuestion(question);
        wantDay(day);
        if (book.wasAsked(well, day)) {
            return -1;
        }
        if (book.answerCount >= MOST_ANSWERS) {
            return -2;
        }
        int said = almanac.answer(well, question, day, book.stateNow);
        book.write(well, day, said, almanac.saying(well, question, day, said));
        return said;
    }

    public long left() {
        return statesLeft();
    }

    public int leftMany() {
        return Long.bitCount(statesLeft());
    }

    public int known(int day) throws IllegalArgumentException {
        wantDay(day);
        return inAllLeft(almanac.soOn(GOAL, day));
    }

    public int vein(int vein) throws IllegalArgumentException {
        wantRight(vein >= 0 && vein < land.veinCount);
        return inAllLeft(land.veinStates(vein));
    }

    /** 1: in all states that are left, 0: in none of them, 2: in some; NONE: none is left. */
    private int inAllLeft(long wanted) {
        long left = statesLeft();
        if (left == 0) {
            return NONE;
        }
        if ((left & wanted) == 0) {
            return 0;
        }
        return (left & ~wanted) == 0 ? 1 : 2;
    }

    private long statesLeft() {
        return book.leftBy(land.allStates, book.answerCount, NONE);
    }

    // ---- the diary

    public int diary(int i, int what) throws IllegalArgumentException {
        wantRight(what >= 0 && what <= 3);
        if (i < 0 || i >= book.answerCount) {
            return NONE;
        }
        switch (what) {
            case 0:
                return book.answerWell[i];
            case 1:
                return book.answerDay[i];
            case 2:
                return book.answerSaid[i];
            default:
                return Long.bitCount(book.leftBy(land.allStates, i + 1, NONE));
        }
    }

    public int tear(int i) {
        int from = Math.min(Math.max(i, 0), book.answerCount);
        int torn = book.answerCount - from;
        book.answerCount = from;
        return torn;
    }

    public int weightiest() {
        int best = NONE;
        int most = NONE;
        for (int i = 0; i < book.answerCount; i++) {
            int many = Long.bitCount(book.leftBy(land.allStates, book.answerCount, i));
            if (many > most) {
                most = many;
                best = i;
            }
        }
        return best;
    }

    public int brief() {
        if (book.answerCount > MOST_BRIEF) {
            return NONE;
        }
        long wanted = statesLeft();
        int end = 1 << book.answerCount;
        for (int many = 0; many < book.answerCount; many++) {
            for (int bits = 0; bits < end; bits++) {
                if (Integer.bitCount(bits) == many && book.leftByThese(land.allStates, bits) == wanted) {
                    return bits;
                }
            }
        }
        return end - 1;
    }

    // ---- hearsay

    public int hear(int well, int question, int day, int said)
            throws NoSuchElementException, IllegalArgumentException {
        wantWell(well);
        wantQuestion(question);
        wantDay(day);
        wantRight(said >= NO && said <= PERHAPS);
        if (book.hearsayCount >= MOST_HEARSAY) {
            return -1;
        }
        book.note(almanac.saying(well, question, day, said));
        return book.hearsayCount;
    }

    public int hearsay(int what) throws IllegalArgumentException {
        wantWhat(what);
        int bits = falseHearsay(statesLeft());
        return what == 1 || bits == NONE ? bits : Integer.bitCount(bits);
    }

    public long trusted() {
        long trusted = statesLeft();
        int struck = falseHearsay(trusted);
        for (int i = 0; i < book.hearsayCount; i++) {
            if (struck != NONE && (struck >> i & 1) == 0) {
                trusted &= book.hearsayStates[i];
            }
        }
        return trusted;
    }

    public int deaf() {
        int gone = book.hearsayCount;
        book.hearsayCount = 0;
        return gone;
    }

    /** Every set worth striking out is what one state gainsays, so the best is among these. */
    private int falseHearsay(long left) {
        int best = NONE;
        for (int state = 0; state < MOST_STATES; state++) {
            if (holds(left, state)) {
                int bits = book.gainsaid(state);
                if (best == NONE || fewer(bits, best)) {
                    best = bits;
                }
            }
        }
        return best;
    }

    private static boolean fewer(int bits, int best) {
        int many = Integer.compare(Integer.bitCount(bits), Integer.bitCount(best));
        return many < 0 || many == 0 && bits < best;
    }

    // ---- which asking is best

    public int parts(int day, int what) throws IllegalArgumentException {
        wantDay(day);
        wantWhat(what);
        sifter.partBest(day, statesLeft());
        return what == 0 ? sifter.fewestLeft : sifter.bestAsking;
    }

    public int enough(int day, int what) throws IllegalArgumentException {
        wantDay(day);
        wantWhat(what);
        int many = sifter.fewestAskings(day, statesLeft());
        return what == 0 || many == NONE ? many : sifter.rowDigits();
    }

    public int trick(int well, int day) throws NoSuchElementException, IllegalArgumentException {
        wantWell(well);
        wantDay(day);
        return sifter.firstTrick(well, day, statesLeft());
    }

    public int cant(int day, int what) throws IllegalArgumentException {
        wantDay(day);
        wantWhat(what);
        int pair = sifter.firstUntold(day, statesLeft());
        if (pair == NONE) {
            return NONE;
        }
        return what == 0 ? pair / MOST_STATES : pair % MOST_STATES;
    }

    public int atoms(int day) throws IllegalArgumentException {
        wantDay(day);
        return sifter.fewestLetters(day, statesLeft());
    }

    public int spare(int day) throws IllegalArgumentException {
        wantDay(day);
        return sifter.spareWells(day, statesLeft());
    }

    public int plan(int place, int day, int what) throws NoSuchElementException, IllegalArgumentException {
        wantPlace(place);
        wantDay(day);
        wantWhat(what);
        int days = planner.fewestDays(place, day, statesLeft());
        return what == 0 ? days : planner.firstAsking;
    }

    public int yes(int well, int day) throws NoSuchElementException, IllegalArgumentException {
        wantWell(well);
        wantDay(day);
        long left = statesLeft();
        int bits = 0;
        for (int q = 0; q < QUESTIONS; q++) {
            if (book.has(q) && (left & ~almanac.saying(well, q, day, YES)) == 0) {
                bits |= 1 << q;
            }
        }
        return bits;
    }

    public int alike(int question, int other, int day) throws IllegalArgumentException {
        wantQuestion(question);
        wantQuestion(other);
        wantDay(day);
        long unlike = almanac.soOn(question, day) ^ almanac.soOn(other, day);
        return Long.bitCount(land.allStates & ~unlike);
    }

    public int odds(int day, int what) throws IllegalArgumentException {
        wantDay(day);
        wantWhat(what);
        long left = statesLeft();
        int below = Long.bitCount(left);
        int above = Long.bitCount(left & almanac.soOn(GOAL, day));
        if (above == 0) {
            return what == 0 ? 0 : 1;
        }
        int part = commonDivisor(above, below);
        if (part <= 0) {
            return NONE;
        }
        return (what == 0 ? above : below) / part;
    }

    private static int commonDivisor(int a, int b) {
        int part = Math.min(a, b);
        while (part > 1 && (a % part != 0 || b % part != 0)) {
            part--;
        }
        return part;
    }

    // ---- roads

    public int riders(int place, int many, int wells) throws NoSuchElementException, IllegalArgumentException {
        wantPlace(place);
        wantRight(many >= 1 && many <= MOST_RIDERS);
        wantWells(wells);
        return rides.soonest(place, many, wells);
    }

    public int tour(int place, int wells) throws NoSuchElementException, IllegalArgumentException {
        wantPlace(place);
        wantWells(wells);
        return rides.round(place, wells);
    }

    // ---- days sold

    public int offer(int buyer, int well, int price) throws NoSuchElementException, IllegalArgumentException {
        wantWell(well);
        wantBuyer(buyer);
        wantRight(price >= 0 && price <= MOST_PRICE);
        int at = buyer * MOST_WELLS + well;
        int before = book.offers[at];
        book.offers[at] = price;
        return before;
    }

    public int shared(int buyer, int day) throws IllegalArgumentException {
        wantBuyer(buyer);
        wantDay(day);
        return market.wellOf(buyer, day);
    }

    public int sold(int day, int what) throws IllegalArgumentException {
        wantDay(day);
        wantRight(what >= 0 && what <= BUYERS);
        return what == 0 ? market.most(day, NONE) : market.pays(what - 1, day);
    }

    // ---- marks

    public int marks(int words, int lost) throws IllegalArgumentException {
        wantRight(words >= 1 && words <= MOST_WORDS);
        wantRight(lost >= 0 && lost <= MOST_LOST);
        int last = codeWord(lost, words - 1);
        for (int n = 1; n <= MOST_MARKS; n++) {
            if (last != NONE && last < 1 << n) {
                return n;
            }
        }
        return NONE;
    }

    public int code(int n, int lost, int i) throws IllegalArgumentException {
        wantRight(n >= 1 && n <= MOST_MARKS);
        wantRight(lost >= 0 && lost <= MOST_LOST);
        int word = codeWord(lost, i);
        return word < 1 << n ? word : NONE;
    }

    /** The i-th word of 8 marks: a code of fewer marks begins just so, as its words are the lesser ones. */
    private int codeWord(int lost, int i) {
        int taken = 0;
        for (int word = 0; word < MOST_WORDS && taken <= i && taken < MOST_WORDS; word++) {
            if (apartFromAll(word, taken, lost)) {
                codeWords[taken] = word;
                taken++;
            }
        }
        return i >= 0 && i < taken ? codeWords[i] : NONE;
    }

    private boolean apartFromAll(int word, int taken, int lost) {
        for (int i = 0; i < taken && i < MOST_WORDS; i++) {
            if (Integer.bitCount(word ^ codeWords[i]) <= lost) {
                return false;
            }
        }
        return true;
    }

    // ---- the year

    public int year(int well, int seed, int q) throws NoSuchElementException, IllegalArgumentException {
        wantWell(well);
        wantRight(q >= 0 && q <= MOST_FROST);
        int many = 0;
        int now = seed;
        for (int day = 0; day < DAYS; day++) {
            now = nextSeed(now);
            if (!freezes(now, q) && !land.hushed(well, day)) {
                many++;
            }
        }
        return many;
    }

    public int drought(int seed, int q) throws IllegalArgumentException {
        wantRight(q >= 0 && q <= MOST_FROST);
        if (land.wellCount == 0) {
            return 0;
        }
        int longest = 0;
        int row = 0;
        int now = seed;
        for (int day = 0; day < DAYS; day++) {
            now = nextSeed(now);
            row = freezes(now, q) || land.allHushed(day) ? row + 1 : 0;
            longest = Math.max(longest, row);
        }
        return longest;
    }

    private static int nextSeed(int seed) {
        return seed * 1103515245 + 12345;
    }

    private static boolean freezes(int seed, int q) {
        return (seed >>> 16 & 15) < q;
    }

    public int parting(int well, int question) throws NoSuchElementException, IllegalArgumentException {
        wantWell(well);
        wantQuestion(question);
        long left = statesLeft();
        int many = 0;
        for (int day = 0; day < DAYS; day++) {
            long yes = almanac.saying(well, question, day, YES) & left;
            if (yes != 0 && yes != left) {
                many++;
            }
        }
        return many;
    }

    public int lying(int well, int what) throws NoSuchElementException, IllegalArgumentException {
        wantWell(well);
        wantWhat(what);
        int many = 0;
        int first = NONE;
        for (int day = 0; day < DAYS; day++) {
            if (holds(land.lieStates(well, day), book.stateNow)) {
                many++;
                first = first == NONE ? day : first;
            }
        }
        return what == 0 ? many : first;
    }

    public int agree(int well, int other, int question) throws NoSuchElementException, IllegalArgumentException {
        wantWell(well);
        wantWell(other);
        wantQuestion(question);
        int many = 0;
        for (int day = 0; day < DAYS; day++) {
            int said = almanac.answer(well, question, day, book.stateNow);
            if (said != PERHAPS && said == almanac.answer(other, question, day, book.stateNow)) {
                many++;
            }
        }
        return many;
    }

    public int learned(int day) throws IllegalArgumentException {
        wantDay(day);
        int best = NONE;
        int most = NONE;
        for (int well = 0; well < land.wellCount; well++) {
            int many = land.hushed(well, day) ? NONE : almanac.mastered(well);
            if (many > most) {
                most = many;
                best = well;
            }
        }
        return best;
    }

    public int waits(int well, int day) throws NoSuchElementException, IllegalArgumentException {
        wantWell(well);
        wantDay(day);
        for (int then = day; then < DAYS; then++) {
            if (!land.hushed(well, then)) {
                return then - day;
            }
        }
        return NONE;
    }

    // ---- what is kept

    public int be(int state) throws IllegalArgumentException {
        wantState(state);
        int before = book.stateNow;
        book.stateNow = state;
        return before;
    }

    public int image() {
        Book image = imageCount < MOST_IMAGES ? images[imageCount] : null;
        if (image == null) {
            return -1;
        }
        image.copyFrom(book);
        imageCount++;
        return imageCount;
    }

    public int restore() {
        Book image = imageCount > 0 ? images[imageCount - 1] : null;
        if (image == null) {
            return -1;
        }
        book.copyFrom(image);
        imageCount--;
        almanac.renew();
        return imageCount;
    }

    public int status(int what) {
        if (what == 0) {
            return refusedElements;
        }
        return what == 1 ? refusedArguments : NONE;
    }

    public int count(int what) {
        if (what == 0) {
            return imageCount;
        }
        return what == 1 ? taped : NONE;
    }

    // ---- what a call wants

    private void wantWell(int well) {
        wantThere(well >= 0 && well < land.wellCount);
    }

    private void wantPlace(int place) {
        wantThere(place >= 0 && place < land.placeCount);
    }

    private void wantDay(int day) {
        wantRight(day >= 0 && day < DAYS);
    }

    private void wantState(int state) {
        wantRight(state >= 0 && state < land.stateCount);
    }

    private void wantQuestion(int question) {
        wantRight(question >= 0 && question < QUESTIONS);
    }

    private void wantBuyer(int buyer) {
        wantRight(buyer >= 0 && buyer < BUYERS);
    }

    private void wantWells(int wells) {
        wantRight(wells >= 0 && wells < 1 << land.wellCount);
    }

    /** Most calls have two answers to choose from. */
    private void wantWhat(int what) {
        wantRight(what == 0 || what == 1);
    }

    private void wantThere(boolean there) {
        if (!there) {
            refusedElements++;
            throw new NoSuchElementException("no such well or place");
        }
    }

    private void wantRight(boolean right) {
        if (!right) {
            refusedArguments++;
            throw new IllegalArgumentException("no such argument");
        }
    }

    private static boolean holds(long states, int state) {
        return (states >>> state & 1) != 0;
    }

    /** Whether these states are all alike by the goal (so are none). */
    private static boolean settled(long states, long goal) {
        return (states & goal) == 0 || (states & ~goal) == 0;
    }

    /** The first bytes of the tape, read from the left: the word, number or sign that is next, or the fault. */
    private static final class Text {
        private static final int END = 0;
        private static final int WORD = 1;
        private static final int NUMBER = 2;
        private static final int SIGN = 3;
        private static final int BLANK = 32;
        private static final int MOST_VALUE = 100000;

        private final byte[] bytes;
        private int length;
        private int kind;
        private int from;
        private int to;
        /** Of a number or a sign. */
        private int value;
        private int faultKind;
        private int faultPlace;

        Text(byte[] tape) {
            bytes = tape;
            faultPlace = NONE;
        }

        void open(int n) {
            length = Math.min(n, bytes.length);
            to = 0;
            faultKind = 0;
            faultPlace = NONE;
            next();
        }

        void next() {
            from = to;
            while (from < length && bytes[from] == BLANK) {
                from++;
            }
            to = from;
            while (to < length && bytes[to] >= 'a' && bytes[to] <= 'z') {
                to++;
            }
            if (to > from) {
                kind = WORD;
                return;
            }
            value = 0;
            while (to < length && bytes[to] >= '0' && bytes[to] <= '9') {
                // what is too great stays too great, however many digits there are
                value = value >= MOST_VALUE ? value : value * 10 + bytes[to] - '0';
                to++;
            }
            if (to > from) {
                kind = NUMBER;
                return;
            }
            kind = END;
            if (from < length) {
                kind = SIGN;
                value = bytes[from] & 255;
                to = from + 1;
            }
        }

        /** The fault is where the token begins: at the length, if there is none. Always NONE, to answer by it. */
        int fail(int fault) {
            faultKind = fault;
            faultPlace = from;
            return NONE;
        }

        boolean isWord(String word) {
            if (kind != WORD || to - from != word.length()) {
                return false;
            }
            for (int i = 0; i < word.length() && from + i < length; i++) {
                if (bytes[from + i] != word.charAt(i)) {
                    return false;
                }
            }
            return true;
        }

        boolean isSign(char sign) {
            return kind == SIGN && value == sign;
        }

        /** The letters of a word as bits (a the lowest); NONE: there is another one than so many, or one twice. */
        int letterBits(int many) {
            int bits = 0;
            for (int i = from; i < to && i < length; i++) {
                int letter = bytes[i] - 'a';
                if (letter < 0 || letter >= many || (bits >> letter & 1) != 0) {
                    return NONE;
                }
                bits |= 1 << letter;
            }
            return bits;
        }

        /** A number from least to most, which is not passed yet, or NONE with its fault. */
        int number(int least, int most) {
            boolean found = kind == NUMBER;
            if (found && value >= least && value <= most) {
                return value;
            }
            faultKind = found ? FAULT_VALUE : FAULT_STRAY;
            faultPlace = from;
            return NONE;
        }
    }

    /** A country as its text tells it. */
    private static final class Land {
        private int letters;
        private int placeCount;
        private int wellCount;
        private int veinCount;
        private int stateCount;
        private long allStates;
        private int firstState;
        private int frostFrom;
        private int frostTo;
        /** Roads while the text is read, least ways behind that; NONE where there is none. */
        private final int[] ways;
        private final int[] wellPlace;
        private final int[] wellLetters;
        private final int[] liesEach;
        private final int[] liesRest;
        private final int[] dryFrom;
        private final int[] dryTo;
        private final int[] veinFirst;
        private final int[] veinOther;
        private final int[] veinFrom;
        private final int[] veinTo;

        Land() {
            ways = new int[MOST_PLACES * MOST_PLACES];
            wellPlace = new int[MOST_WELLS];
            wellLetters = new int[MOST_WELLS];
            liesEach = new int[MOST_WELLS];
            liesRest = new int[MOST_WELLS];
            dryFrom = new int[MOST_WELLS];
            dryTo = new int[MOST_WELLS];
            veinFirst = new int[MOST_VEINS];
            veinOther = new int[MOST_VEINS];
            veinFrom = new int[MOST_VEINS];
            veinTo = new int[MOST_VEINS];
            letters = MOST_LETTERS;
            frostFrom = NONE;
            frostTo = NONE;
            stateCount = 1 << MOST_LETTERS;
            allStates = (1L << stateCount) - 1;
        }

        void clear() {
            letters = MOST_LETTERS;
            placeCount = 0;
            wellCount = 0;
            veinCount = 0;
            firstState = 0;
            frostFrom = NONE;
            frostTo = NONE;
            Arrays.fill(ways, NONE);
            Arrays.fill(liesEach, 0);
            Arrays.fill(liesRest, 0);
            Arrays.fill(dryFrom, NONE);
            Arrays.fill(dryTo, NONE);
        }

        void copyFrom(Land other) {
            letters = other.letters;
            placeCount = other.placeCount;
            wellCount = other.wellCount;
            veinCount = other.veinCount;
            stateCount = other.stateCount;
            allStates = other.allStates;
            firstState = other.firstState;
            frostFrom = other.frostFrom;
            frostTo = other.frostTo;
            System.arraycopy(other.ways, 0, ways, 0, MOST_PLACES * MOST_PLACES);
            System.arraycopy(other.wellPlace, 0, wellPlace, 0, MOST_WELLS);
            System.arraycopy(other.wellLetters, 0, wellLetters, 0, MOST_WELLS);
            System.arraycopy(other.liesEach, 0, liesEach, 0, MOST_WELLS);
            System.arraycopy(other.liesRest, 0, liesRest, 0, MOST_WELLS);
            System.arraycopy(other.dryFrom, 0, dryFrom, 0, MOST_WELLS);
            System.arraycopy(other.dryTo, 0, dryTo, 0, MOST_WELLS);
            System.arraycopy(other.veinFirst, 0, veinFirst, 0, MOST_VEINS);
            System.arraycopy(other.veinOther, 0, veinOther, 0, MOST_VEINS);
            System.arraycopy(other.veinFrom, 0, veinFrom, 0, MOST_VEINS);
            System.arraycopy(other.veinTo, 0, veinTo, 0, MOST_VEINS);
        }

        void countStates() {
            stateCount = 1 << letters + veinCount;
            allStates = stateCount >= MOST_STATES ? -1L : (1L << stateCount) - 1;
        }

        /** The states in which the second well told of the vein is the one that lies. */
        long veinStates(int vein) {
            int bit = letters + vein;
            return bit >= 0 && bit < BIT_STATES.length ? BIT_STATES[bit] & allStates : 0;
        }

        boolean hushed(int well, int day) {
            return day >= dryFrom[well] && day <= dryTo[well] || day >= frostFrom && day <= frostTo;
        }

        boolean allHushed(int day) {
            for (int well = 0; well < wellCount; well++) {
                if (!hushed(well, day)) {
                    return false;
                }
            }
            return true;
        }

        /** The states in which a well lies on a day. */
        long lieStates(int well, int day) {
            int each = liesEach[well];
            long lie = each > 0 && day % each == liesRest[well] ? allStates : 0;
            for (int vein = 0; vein < veinCount; vein++) {
                int bit = letters + vein;
                if (bit < BIT_STATES.length && day >= veinFrom[vein] && day <= veinTo[vein]) {
                    long other = BIT_STATES[bit] & allStates;
                    lie ^= well == veinOther[vein] ? other : 0;
                    lie ^= well == veinFirst[vein] ? allStates & ~other : 0;
                }
            }
            return lie;
        }

        /** Whether a well knows all that a phrase needs (the letters in it, and who says in it, as bits). */
        boolean suffices(int well, int need) {
            return (need & ~(wellLetters[well] | 1 << MOST_LETTERS + well)) == 0;
        }

        int way(int place, int other) {
            return ways[place * MOST_PLACES + other];
        }

        void setRoad(int place, int other, int days) {
            ways[place * MOST_PLACES + other] = days;
            ways[other * MOST_PLACES + place] = days;
        }

        void measureWays() {
            for (int place = 0; place < placeCount; place++) {
                setRoad(place, place, 0);
            }
            for (int over = 0; over < placeCount; over++) {
                for (int from = 0; from < placeCount; from++) {
                    for (int to = 0; to < placeCount; to++) {
                        shorten(from, over, to);
                    }
                }
            }
        }

        private void shorten(int from, int over, int to) {
            int first = way(from, over);
            int then = way(over, to);
            int now = way(from, to);
            if (first >= 0 && then >= 0 && (now < 0 || first + then < now)) {
                ways[from * MOST_PLACES + to] = first + then;
            }
        }
    }

    /** Reads a country into a draft, so that a fault leaves the country as it was. */
    private static final class LandReader {
        private final Text text;
        private final Land draft;

        LandReader(Text reading, Land tried) {
            text = reading;
            draft = tried;
        }

        boolean read() {
            draft.clear();
            for (int clauses = 0; clauses <= MOST_CLAUSES; clauses++) {
                if (text.kind == Text.END) {
                    return end();
                }
                if (readClause(clauses) < 0) {
                    return false;
                }
            }
            return false;
        }

        private boolean end() {
            draft.countStates();
            if (draft.firstState >= draft.stateCount) {
                text.fail(FAULT_LATE);
                return false;
            }
            draft.measureWays();
            return true;
        }

        /** At least 0, or NONE with the fault: so do all that read a part of it. */
        private int readClause(int clauses) {
            int kind = kind();
            if (kind == NONE) {
                return text.fail(FAULT_STRAY);
            }
            if (clauses >= MOST_CLAUSES || full(kind)) {
                return text.fail(FAULT_MANY);
            }
            if (kind == 0 && clauses > 0) {
                return text.fail(FAULT_LATE);
            }
            text.next();
            if (readRest(kind) < 0) {
                return NONE;
            }
            if (!text.isSign(';')) {
                return text.fail(FAULT_STRAY);
            }
            text.next();
            return 0;
        }

        private int kind() {
            return text.isWord("atoms") ? 0
                    : text.isWord("place") ? 1
                    : text.isWord("road") ? 2
                    : text.isWord("well") ? 3
                    : text.isWord("lies") ? 4
                    : text.isWord("dry") ? 5
                    : text.isWord("vein") ? 6
                    : text.isWord("frost") ? 7
                    : text.isWord("is") ? 8 : NONE;
        }

        private boolean full(int kind) {
            return kind == 1 && draft.placeCount >= MOST_PLACES
                    || kind == 3 && draft.wellCount >= MOST_WELLS
                    || kind == 6 && draft.veinCount >= MOST_VEINS;
        }

        private int readRest(int kind) {
            switch (kind) {
                case 0:
                    return readLetters();
                case 1:
                    draft.placeCount++;
                    return 0;
                case 2:
                    return readRoad();
                case 3:
                    return readWell();
                case 4:
                    return readLies();
                case 5:
                    return readDry();
                case 6:
                    return readVein();
                case 7:
                    return readFrost();
                default:
                    return readState();
            }
        }

        private int readNumber(int least, int most) {
            int number = text.number(least, most);
            if (number >= 0) {
                text.next();
            }
            return number;
        }

        /** One of so many that is not the first one. */
        private int readOther(int first, int many) {
            int other = text.number(0, many - 1);
            if (other == first) {
                return text.fail(FAULT_VALUE);
            }
            if (other >= 0) {
                text.next();
            }
            return other;
        }

        private int readLetters() {
            int many = readNumber(1, MOST_LETTERS);
            draft.letters = many < 0 ? draft.letters : many;
            return many;
        }

        private int readState() {
            int state = readNumber(0, MOST_STATES - 1);
            draft.firstState = state;
            return state;
        }

        private int readRoad() {
            int place = readNumber(0, draft.placeCount - 1);
            int other = place < 0 ? NONE : readOther(place, draft.placeCount);
            int days = other < 0 ? NONE : readNumber(1, 9);
            if (days >= 0) {
                draft.setRoad(place, other, days);
            }
            return days;
        }

        private int readWell() {
            int place = readNumber(0, draft.placeCount - 1);
            int bits = place < 0 ? NONE : readKnown();
            int well = draft.wellCount;
            if (bits >= 0 && well < MOST_WELLS) {
                draft.wellPlace[well] = place;
                draft.wellLetters[well] = bits;
                draft.wellCount++;
            }
            return bits;
        }

        private int readKnown() {
            if (text.kind != Text.WORD) {
                return text.fail(FAULT_STRAY);
            }
            int bits = text.letterBits(draft.letters);
            if (bits < 0) {
                return text.fail(FAULT_VALUE);
            }
            text.next();
            return bits;
        }

        private int readLies() {
            int well = readNumber(0, draft.wellCount - 1);
            int each = well < 0 ? NONE : readNumber(1, 30);
            int rest = each < 0 ? NONE : readNumber(0, each - 1);
            if (rest >= 0) {
                draft.liesEach[well] = each;
                draft.liesRest[well] = rest;
            }
            return rest;
        }

        private int readDry() {
            int well = readNumber(0, draft.wellCount - 1);
            int from = well < 0 ? NONE : readNumber(0, DAYS - 1);
            int to = from < 0 ? NONE : readNumber(from, DAYS - 1);
            if (to >= 0) {
                draft.dryFrom[well] = from;
                draft.dryTo[well] = to;
            }
            return to;
        }

        private int readVein() {
            int first = readNumber(0, draft.wellCount - 1);
            int other = first < 0 ? NONE : readOther(first, draft.wellCount);
            int from = other < 0 ? NONE : readNumber(0, DAYS - 1);
            int to = from < 0 ? NONE : readNumber(from, DAYS - 1);
            int vein = draft.veinCount;
            if (to >= 0 && vein < MOST_VEINS) {
                draft.veinFirst[vein] = first;
                draft.veinOther[vein] = other;
                draft.veinFrom[vein] = from;
                draft.veinTo[vein] = to;
                draft.veinCount++;
            }
            return to;
        }

        private int readFrost() {
            int from = readNumber(0, DAYS - 1);
            int to = from < 0 ? NONE : readNumber(from, DAYS - 1);
            draft.frostFrom = from;
            draft.frostTo = to;
            return to;
        }
    }

    /** A question or the goal, as steps on a pile of sets of states. It never changes, so images share it. */
    private static final class Phrase {
        /** Steps below it are letters; up to IF they join two sets, from NOT on they turn one. */
        private static final int AND = 4;
        private static final int OR = 5;
        private static final int IF = 6;
        private static final int NOT = 7;
        /** A says of a well that doesn't know what it is asked. */
        private static final int NEVER = 8;
        /** And the well. */
        private static final int SAYS = 9;

        private final int[] steps;
        private final int need;

        Phrase(int[] found, int needed) {
            steps = found;
            need = needed;
        }
    }

    /** Reads a phrase; what reads a part answers what that part needs, or NONE with the fault. */
    private static final class PhraseReader {
        private final Text text;
        private final Land land;
        private final int[] steps;
        private int stepCount;

        PhraseReader(Text reading, Land country) {
            text = reading;
            land = country;
            steps = new int[MOST_PHRASE];
        }

        /** Null with the fault. */
        Phrase read() {
            stepCount = 0;
            int need = readAny(0);
            if (need >= 0 && text.kind != Text.END) {
                need = text.fail(FAULT_STRAY);
            }
            return need < 0 ? null : new Phrase(Arrays.copyOf(steps, stepCount), need);
        }

        private void put(int step) {
            if (stepCount < MOST_PHRASE) {
                steps[stepCount] = step;
                stepCount++;
            }
        }

        private int readAny(int open) {
            int need = readAll(open);
            for (int i = 0; i < MOST_PHRASE && need >= 0 && text.isWord("or"); i++) {
                text.next();
                int more = readAll(open);
                if (more < 0) {
                    return NONE;
                }
                put(Phrase.OR);
                need |= more;
            }
            return need;
        }

        private int readAll(int open) {
            int need = readOne(open);
            for (int i = 0; i < MOST_PHRASE && need >= 0 && text.isWord("and"); i++) {
                text.next();
                int more = readOne(open);
                if (more < 0) {
                    return NONE;
                }
                put(Phrase.AND);
                need |= more;
            }
            return need;
        }

        private int readOne(int open) {
            int bits = text.kind == Text.WORD ? text.letterBits(land.letters) : NONE;
            if (bits >= 0 && Integer.bitCount(bits) == 1) {
                put(Integer.numberOfTrailingZeros(bits));
                text.next();
                return bits;
            }
            int opener = opener();
            if (opener == NONE) {
                return text.fail(FAULT_STRAY);
            }
            if (open >= MOST_OPEN) {
                return text.fail(FAULT_MANY);
            }
            text.next();
            return opener == 0 ? readBracket(open + 1)
                    : opener == 1 ? readNot(open + 1)
                    : opener == 2 ? readIf(open + 1) : readSays(open + 1);
        }

        private int opener() {
            return text.isSign('[') ? 0
                    : text.isWord("not") ? 1
                    : text.isWord("if") ? 2
                    : text.isWord("says") ? 3 : NONE;
        }

        private int readBracket(int open) {
            int need = readAny(open);
            if (need < 0) {
                return NONE;
            }
            if (!text.isSign(']')) {
                return text.fail(FAULT_STRAY);
            }
            text.next();
            return need;
        }

        private int readNot(int open) {
            int need = readOne(open);
            if (need >= 0) {
                put(Phrase.NOT);
            }
            return need;
        }

        private int readIf(int open) {
            int need = readOne(open);
            if (need < 0) {
                return NONE;
            }
            if (!text.isWord("then")) {
                return text.fail(FAULT_STRAY);
            }
            text.next();
            int more = readOne(open);
            if (more < 0) {
                return NONE;
            }
            put(Phrase.IF);
            return need | more;
        }

        private int readSays(int open) {
            int well = text.number(0, land.wellCount - 1);
            if (well < 0) {
                return NONE;
            }
            text.next();
            int need = readOne(open);
            if (need < 0) {
                return NONE;
            }
            put(land.suffices(well, need) ? Phrase.SAYS + well : Phrase.NEVER);
            return need | 1 << MOST_LETTERS + well;
        }
    }

    /** All that an image keeps. */
    private static final class Book {
        private int stateNow;
        /** Null where there is no text. */
        private final Phrase[] phrases;
        private int answerCount;
        private final int[] answerWell;
        private final int[] answerDay;
        private final int[] answerSaid;
        /** The states by which the answer would be just so: by the question as it was then. */
        private final long[] answerStates;
        private int hearsayCount;
        private final long[] hearsayStates;
        private final int[] offers;

        Book() {
            phrases = new Phrase[PHRASES];
            answerWell = new int[MOST_ANSWERS];
            answerDay = new int[MOST_ANSWERS];
            answerSaid = new int[MOST_ANSWERS];
            answerStates = new long[MOST_ANSWERS];
            hearsayStates = new long[MOST_HEARSAY];
            offers = new int[BUYERS * MOST_WELLS];
        }

        void clear(int state) {
            stateNow = state;
            for (int i = 0; i < PHRASES; i++) {
                phrases[i] = null;
            }
            answerCount = 0;
            hearsayCount = 0;
            Arrays.fill(offers, 0);
        }

        void copyFrom(Book other) {
            stateNow = other.stateNow;
            for (int i = 0; i < PHRASES; i++) {
                phrases[i] = other.phrases[i];
            }
            answerCount = other.answerCount;
            System.arraycopy(other.answerWell, 0, answerWell, 0, MOST_ANSWERS);
            System.arraycopy(other.answerDay, 0, answerDay, 0, MOST_ANSWERS);
            System.arraycopy(other.answerSaid, 0, answerSaid, 0, MOST_ANSWERS);
            System.arraycopy(other.answerStates, 0, answerStates, 0, MOST_ANSWERS);
            hearsayCount = other.hearsayCount;
            System.arraycopy(other.hearsayStates, 0, hearsayStates, 0, MOST_HEARSAY);
            System.arraycopy(other.offers, 0, offers, 0, BUYERS * MOST_WELLS);
        }

        boolean has(int slot) {
            return phrases[slot] != null;
        }

        boolean wasAsked(int well, int day) {
            for (int i = 0; i < answerCount; i++) {
                if (answerWell[i] == well && answerDay[i] == day) {
                    return true;
                }
            }
            return false;
        }

        void write(int well, int day, int said, long states) {
            if (answerCount < MOST_ANSWERS) {
                answerWell[answerCount] = well;
                answerDay[answerCount] = day;
                answerSaid[answerCount] = said;
                answerStates[answerCount] = states;
                answerCount++;
            }
        }

        void note(long states) {
            if (hearsayCount < MOST_HEARSAY) {
                hearsayStates[hearsayCount] = states;
                hearsayCount++;
            }
        }

        /** What is left of states by the first answers but one. */
        long leftBy(long all, int many, int but) {
            long left = all;
            for (int i = 0; i < many && i < MOST_ANSWERS; i++) {
                left &= i == but ? all : answerStates[i];
            }
            return left;
        }

        long leftByThese(long all, int bits) {
            long left = all;
            for (int i = 0; i < answerCount && i < MOST_BRIEF; i++) {
                left &= (bits >> i & 1) != 0 ? answerStates[i] : all;
            }
            return left;
        }

        /** The hearsay that is not so in a state. */
        int gainsaid(int state) {
            int bits = 0;
            for (int i = 0; i < hearsayCount; i++) {
                bits |= holds(hearsayStates[i], state) ? 0 : 1 << i;
            }
            return bits;
        }
    }

    /** What is so, and who lies, by days: each is found once and kept, as a plan comes to the same days often. */
    private static final class Almanac {
        private final Land land;
        private final Book book;
        /** By days and phrases, and the edition in which it was found. */
        private final long[] so;
        private final int[] soIn;
        private final long[] lieFound;
        private final int[] hushed;
        private final int[] openIn;
        /** What was found in an earlier edition holds no more. */
        private int edition;
        private final long[] pile;

        Almanac(Land country, Book kept) {
            land = country;
            book = kept;
            so = new long[DAYS * PHRASES];
            soIn = new int[DAYS * PHRASES];
            lieFound = new long[DAYS * MOST_WELLS];
            hushed = new int[DAYS];
            openIn = new int[DAYS];
            edition = 1;
            // no phrase has more steps than bytes, so the pile can't be higher
            pile = new long[MOST_PHRASE];
        }

        void renew() {
            edition++;
        }

        /** The states in which a phrase is so on a day. */
        long soOn(int slot, int day) {
            int at = day * PHRASES + slot;
            if (soIn[at] != edition) {
                openDay(day);
                so[at] = weigh(book.phrases[slot], day) & land.allStates;
                soIn[at] = edition;
            }
            return so[at];
        }

        /** The states in which a well lies on a day. */
        long lieOn(int well, int day) {
            openDay(day);
            return lieFound[day * MOST_WELLS + well];
        }

        private void openDay(int day) {
            if (openIn[day] != edition) {
                hushed[day] = 0;
                for (int well = 0; well < land.wellCount; well++) {
                    lieFound[day * MOST_WELLS + well] = land.lieStates(well, day);
                    hushed[day] |= land.hushed(well, day) ? 1 << well : 0;
                }
                openIn[day] = edition;
            }
        }

        /** On a day that is open. */
        private long weigh(Phrase phrase, int day) {
            if (phrase == null) {
                return 0;
            }
            int top = -1;
            for (int i = 0; i < phrase.steps.length; i++) {
                int step = phrase.steps[i];
                top = step < Phrase.AND ? top + 1 : step <= Phrase.IF ? top - 1 : top;
                if (top < 0 || top >= pile.length) {
                    return 0;
                }
                if (step < Phrase.AND) {
                    pile[top] = step < 0 ? 0 : BIT_STATES[step];
                } else if (step <= Phrase.IF) {
                    pile[top] = top + 1 < pile.length ? joined(step, pile[top], pile[top + 1]) : 0;
                } else {
                    pile[top] = turned(step, pile[top], day);
                }
            }
            return top == 0 ? pile[0] : 0;
        }

        private static long joined(int step, long first, long other) {
            return step == Phrase.AND ? first & other : step == Phrase.OR ? first | other : ~first | other;
        }

        private long turned(int step, long states, int day) {
            int well = step - Phrase.SAYS;
            if (well < 0 || well >= land.wellCount) {
                return step == Phrase.NOT ? ~states : 0;
            }
            return (hushed[day] >> well & 1) != 0 ? 0 : states ^ lieFound[day * MOST_WELLS + well];
        }

        boolean masters(int well, int slot) {
            Phrase phrase = book.phrases[slot];
            return phrase == null || land.suffices(well, phrase.need);
        }

        /** How many of the questions that have a text a well knows. */
        int mastered(int well) {
            int many = 0;
            for (int q = 0; q < QUESTIONS; q++) {
                many += book.has(q) && masters(well, q) ? 1 : 0;
            }
            return many;
        }

        /** Whether a well says yes or no, which no state changes. */
        boolean answers(int well, int slot, int day) {
            return masters(well, slot) && !land.hushed(well, day);
        }

        /** The states in which a well that answers says yes. */
        long yesOn(int well, int slot, int day) {
            return soOn(slot, day) ^ lieOn(well, day);
        }

        /** The states in which a well says just that. */
        long saying(int well, int slot, int day, int said) {
            if (!answers(well, slot, day)) {
                return said == PERHAPS ? land.allStates : 0;
            }
            if (said == PERHAPS) {
                return 0;
            }
            long yes = yesOn(well, slot, day);
            return said == YES ? yes : land.allStates & ~yes;
        }

        int answer(int well, int slot, int day, int state) {
            if (!answers(well, slot, day)) {
                return PERHAPS;
            }
            return holds(yesOn(well, slot, day), state) ? YES : NO;
        }
    }

    /** What the answers of one day would tell. */
    private static final class Sifter {
        /** Sets that the goal parts have two states at least. */
        private static final int MOST_MIXED = MOST_STATES / 2;

        private final Land land;
        private final Book book;
        private final Almanac almanac;
        private int fewestLeft;
        private int bestAsking;
        private long goal;
        /** By wells: the questions, as bits, whose answers part what is left, each in a way of its own. */
        private final int[] worth;
        /** By wells and questions that are worth asking: the states that are left in which the well says yes. */
        private final long[] yesLeft;
        private final int[] row;
        /** By how many of a row are asked: sets of states alike by these answers in which the goal is not known yet. */
        private final long[] mixed;
        private final int[] mixedCount;
        private final long[] apart;

        Sifter(Land country, Book kept, Almanac days) {
            land = country;
            book = kept;
            almanac = days;
            worth = new int[MOST_WELLS];
            yesLeft = new long[MOST_WELLS * QUESTIONS];
            row = new int[MOST_WELLS];
            mixed = new long[(MOST_WELLS + 1) * MOST_MIXED];
            mixedCount = new int[MOST_WELLS + 1];
            apart = new long[MOST_WELLS];
        }

        void partBest(int day, long left) {
            fewestLeft = NONE;
            bestAsking = NONE;
            for (int well = 0; well < land.wellCount; well++) {
                for (int q = 0; q < QUESTIONS; q++) {
                    if (book.has(q)) {
                        int many = worstLeft(well, q, day, left);
                        if (fewestLeft == NONE || many < fewestLeft) {
                            fewestLeft = many;
                            bestAsking = 10 * well + q;
                        }
                    }
                }
            }
        }

        private int worstLeft(int well, int q, int day, long left) {
            if (!almanac.answers(well, q, day)) {
                return Long.bitCount(left);
            }
            long yes = almanac.yesOn(well, q, day);
            return Math.max(Long.bitCount(left & yes), Long.bitCount(left & ~yes));
        }

        int firstTrick(int well, int day, long left) {
            long wanted = almanac.soOn(GOAL, day);
            for (int q = 0; q < QUESTIONS; q++) {
                if (book.has(q)) {
                    // a well that doesn't answer leaves all states on one side
                    long yes = almanac.answers(well, q, day) ? almanac.yesOn(well, q, day) : 0;
                    if (settled(left & yes, wanted) && settled(left & ~yes, wanted)) {
                        return q;
                    }
                }
            }
            return NONE;
        }

        /** Asks all wells all questions in mind. */
        private void weighAskings(int day, long left) {
            goal = almanac.soOn(GOAL, day);
            for (int well = 0; well < land.wellCount; well++) {
                worth[well] = 0;
                for (int q = 0; q < QUESTIONS; q++) {
                    if (book.has(q) && almanac.answers(well, q, day)) {
                        long yes = almanac.yesOn(well, q, day) & left;
                        if (yes != 0 && yes != left && partsAnew(well, yes, left)) {
                            worth[well] |= 1 << q;
                            yesLeft[well * QUESTIONS + q] = yes;
                        }
                    }
                }
            }
        }

        private boolean worthAsking(int well, int q) {
            return (worth[well] >> q & 1) != 0;
        }

        private boolean partsAnew(int well, long yes, long left) {
            for (int q = 0; q < QUESTIONS; q++) {
                long unlike = yesLeft[well * QUESTIONS + q] ^ yes;
                if (worthAsking(well, q) && (unlike == 0 || unlike == left)) {
                    return false;
                }
            }
            return true;
        }

        /** How many; then the row has the questions. NONE: there is no such row. */
        int fewestAskings(int day, long left) {
            Arrays.fill(row, 0);
            if (settled(left, almanac.soOn(GOAL, day))) {
                return 0;
            }
            if (firstUntold(day, left) != NONE) {
                return NONE;
            }
            mixed[0] = left;
            mixedCount[0] = 1;
            for (int many = 1; many <= land.wellCount; many++) {
                if (fillRow(0, 0, many)) {
                    return many;
                }
            }
            return NONE;
        }

        /**
         * Whether the wells from this one on can tell the rest by so many askings more. Fewer are known not to do, so
         * too few wells don't, and each asking has to part something.
         */
        private boolean fillRow(int well, int asked, int many) {
            if (many <= 0 || land.wellCount - well < many) {
                return false;
            }
            if (many == 1) {
                return fillLast(well, asked);
            }
            if (fillRow(well + 1, asked, many)) {
                return true;
            }
            for (int q = 0; q < QUESTIONS; q++) {
                if (worthAsking(well, q) && partMixed(asked, yesLeft[well * QUESTIONS + q])) {
                    row[well] = q + 1;
                    if (fillRow(well + 1, asked + 1, many - 1)) {
                        return true;
                    }
                }
            }
            row[well] = 0;
            return false;
        }

        /** The last well comes first, as a row that asks later ones is ahead. */
        private boolean fillLast(int from, int asked) {
            for (int well = land.wellCount - 1; well >= from; well--) {
                for (int q = 0; q < QUESTIONS; q++) {
                    if (worthAsking(well, q) && settlesMixed(asked, yesLeft[well * QUESTIONS + q])) {
                        row[well] = q + 1;
                        return true;
                    }
                }
            }
            return false;
        }

        private boolean settlesMixed(int asked, long yes) {
            for (int i = 0; i < mixedCount[asked]; i++) {
                long states = mixed[asked * MOST_MIXED + i];
                long unlike = (yes ^ goal) & states;
                if (unlike != 0 && unlike != states) {
                    return false;
                }
            }
            return true;
        }

        /** Whether it parted any. */
        private boolean partMixed(int asked, long yes) {
            boolean parted = false;
            mixedCount[asked + 1] = 0;
            for (int i = 0; i < mixedCount[asked]; i++) {
                long states = mixed[asked * MOST_MIXED + i];
                parted = parted || (states & yes) != 0 && (states & ~yes) != 0;
                addMixed(asked + 1, states & yes);
                addMixed(asked + 1, states & ~yes);
            }
            return parted;
        }

        private void addMixed(int asked, long states) {
            if (!settled(states, goal) && mixedCount[asked] < MOST_MIXED) {
                mixed[asked * MOST_MIXED + mixedCount[asked]] = states;
                mixedCount[asked]++;
            }
        }

        int rowDigits() {
            int digits = 0;
            for (int well = 0; well < land.wellCount; well++) {
                digits = digits * 10 + row[well];
            }
            return digits;
        }

        /** Each well's states that it tells apart from one, by some question. */
        private void tellApart(int state) {
            for (int well = 0; well < land.wellCount; well++) {
                apart[well] = 0;
                for (int q = 0; q < QUESTIONS; q++) {
                    if (worthAsking(well, q)) {
                        long yes = yesLeft[well * QUESTIONS + q];
                        apart[well] |= holds(yes, state) ? ~yes : yes;
                    }
                }
            }
        }

        private static long unlike(int state, long left, long wanted) {
            return left & (holds(wanted, state) ? ~wanted : wanted);
        }

        /** The lesser state times 64, and the greater one. */
        int firstUntold(int day, long left) {
            weighAskings(day, left);
            for (int state = 0; state < MOST_STATES; state++) {
                if (holds(left, state)) {
                    tellApart(state);
                    // a lesser one would have been found from its own side
                    long untold = unlike(state, left, goal);
                    for (int well = 0; well < land.wellCount; well++) {
                        untold &= ~apart[well];
                    }
                    if (untold != 0) {
                        return state * MOST_STATES + Long.numberOfTrailingZeros(untold);
                    }
                }
            }
            return NONE;
        }

        int spareWells(int day, long left) {
            weighAskings(day, left);
            int spare = (1 << land.wellCount) - 1;
            for (int state = 0; state < MOST_STATES; state++) {
                if (holds(left, state)) {
                    tellApart(state);
                    spare &= ~aloneNeeded(unlike(state, left, goal));
                }
            }
            return spare;
        }

        /** Wells that alone tell apart some of these states. */
        private int aloneNeeded(long states) {
            int needed = 0;
            for (int well = 0; well < land.wellCount; well++) {
                long alone = states & apart[well];
                for (int other = 0; other < land.wellCount; other++) {
                    alone &= other == well ? alone : ~apart[other];
                }
                needed |= alone != 0 ? 1 << well : 0;
            }
            return needed;
        }

        int fewestLetters(int day, long left) {
            long wanted = almanac.soOn(GOAL, day);
            for (int many = 0; many <= land.letters; many++) {
                for (int bits = 0; bits < 1 << land.letters; bits++) {
                    if (Integer.bitCount(bits) == many && lettersDo(bits, left, wanted)) {
                        return bits;
                    }
                }
            }
            return NONE;
        }

        private boolean lettersDo(int bits, long left, long wanted) {
            for (int state = 0; state < MOST_STATES; state++) {
                if (holds(left, state) && (unlike(state, left, wanted) & alikeBy(bits, state)) != 0) {
                    return false;
                }
            }
            return true;
        }

        private static long alikeBy(int bits, int state) {
            long states = -1L;
            for (int letter = 0; letter < MOST_LETTERS; letter++) {
                if ((bits >> letter & 1) != 0) {
                    states &= holds(BIT_STATES[letter], state) ? BIT_STATES[letter] : ~BIT_STATES[letter];
                }
            }
            return states;
        }
    }

    /** Plans of up to three askings. */
    private static final class Planner {
        private final Land land;
        private final Book book;
        private final Almanac almanac;
        private int firstAsking;

        Planner(Land country, Book kept, Almanac days) {
            land = country;
            book = kept;
            almanac = days;
        }

        /** From that day to the last asking, at the worst; then the first asking is told too. */
        int fewestDays(int place, int day, long left) {
            firstAsking = NONE;
            if (settled(left, almanac.soOn(GOAL, day))) {
                return 0;
            }
            int last = lastDay(place, day, left, 0, DAYS);
            return last >= DAYS ? NONE : last - day;
        }

        /** The least last day, at the worst, that is below a limit; else the limit. */
        private int lastDay(int place, int day, long left, int asked, int limit) {
            int least = limit;
            for (int well = 0; well < land.wellCount; well++) {
                int then = comes(place, day, well, asked);
                if (then >= day && then < least) {
                    least = asked + 1 >= MOST_ASKINGS
                            ? (tellsAll(well, then, left) ? then : least)
                            : lastDayOver(well, then, left, asked, least);
                }
            }
            return least;
        }

        /** The day on which a well can be asked; NONE: there is no way. */
        private int comes(int place, int day, int well, int asked) {
            int days = land.way(place, land.wellPlace[well]);
            if (days < 0) {
                return NONE;
            }
            return days == 0 && asked > 0 ? day + 1 : day + days;
        }

        /** Whether one asking more tells the goal: any does, if the day alone has settled it. */
        private boolean tellsAll(int well, int day, long left) {
            long goal = almanac.soOn(GOAL, day);
            if (settled(left, goal)) {
                return true;
            }
            for (int q = 0; q < QUESTIONS; q++) {
                if (book.has(q) && almanac.answers(well, q, day)) {
                    long unlike = (almanac.yesOn(well, q, day) ^ goal) & left;
                    if (unlike == 0 || unlike == left) {
                        return true;
                    }
                }
            }
            return false;
        }

        private int lastDayOver(int well, int day, long left, int asked, int limit) {
            int least = limit;
            boolean blank = false;
            for (int q = 0; q < QUESTIONS; q++) {
                if (book.has(q)) {
                    long yes = almanac.answers(well, q, day) ? almanac.yesOn(well, q, day) & left : 0;
                    boolean parts = yes != 0 && yes != left;
                    long rest = parts ? left & ~yes : left;
                    // askings that part nothing only pass the day: the first of them stands for all
                    int last = parts || !blank ? dayBehind(well, day, rest, asked, least) : least;
                    last = parts && last < least ? Math.max(last, dayBehind(well, day, yes, asked, least)) : last;
                    blank = blank || !parts;
                    if (last < least) {
                        least = last;
                        firstAsking = asked == 0 ? 10 * well + q : firstAsking;
                    }
                }
            }
            return least;
        }

        private int dayBehind(int well, int day, long left, int asked, int limit) {
            if (settled(left, almanac.soOn(GOAL, day))) {
                return day;
            }
            return lastDay(land.wellPlace[well], day, left, asked + 1, limit);
        }
    }

    /** Ways over told wells. */
    private static final class Rides {
        private static final int SETS = 1 << MOST_WELLS;
        /** Above every way there is. */
        private static final int ENDLESS = 1000000;

        private final Land land;
        /** By the set of wells come to, and the last of them. */
        private final int[] ends;
        private final int[] alone;
        private final int[] before;
        private final int[] now;

        Rides(Land country) {
            land = country;
            ends = new int[SETS * MOST_WELLS];
            alone = new int[SETS];
            before = new int[SETS];
            now = new int[SETS];
        }

        int soonest(int place, int many, int wells) {
            if (!reaches(place, wells)) {
                return NONE;
            }
            rideAll(place, wells, false);
            System.arraycopy(alone, 0, before, 0, SETS);
            for (int rider = 1; rider < many; rider++) {
                addRider(wells);
            }
            return before[wells];
        }

        int round(int place, int wells) {
            if (!reaches(place, wells)) {
                return NONE;
            }
            rideAll(place, wells, true);
            return alone[wells];
        }

        private boolean reaches(int place, int wells) {
            for (int well = 0; well < land.wellCount; well++) {
                if ((wells >> well & 1) != 0 && land.way(place, land.wellPlace[well]) < 0) {
                    return false;
                }
            }
            return true;
        }

        /** For each set of told wells the least way of one rider. */
        private void rideAll(int place, int wells, boolean back) {
            Arrays.fill(alone, ENDLESS);
            alone[0] = 0;
            for (int set = 1; set <= wells && set < SETS; set++) {
                if ((set & ~wells) == 0) {
                    for (int well = 0; well < land.wellCount; well++) {
                        int days = rideTo(place, set, well);
                        ends[set * MOST_WELLS + well] = days;
                        int home = back && days < ENDLESS ? land.way(land.wellPlace[well], place) : 0;
                        alone[set] = Math.min(alone[set], days + home);
                    }
                }
            }
        }

        private int rideTo(int place, int set, int well) {
            if ((set >> well & 1) == 0) {
                return ENDLESS;
            }
            int rest = set & ~(1 << well);
            if (rest == 0) {
                return land.way(place, land.wellPlace[well]);
            }
            int least = ENDLESS;
            for (int last = 0; last < land.wellCount; last++) {
                if ((rest >> last & 1) != 0) {
                    int days = land.way(land.wellPlace[last], land.wellPlace[well]);
                    least = Math.min(least, ends[rest * MOST_WELLS + last] + days);
                }
            }
            return least;
        }

        private void addRider(int wells) {
            for (int set = 0; set <= wells && set < SETS; set++) {
                now[set] = ENDLESS;
                if ((set & ~wells) == 0) {
                    for (int part = 0; part <= set; part++) {
                        if ((part & ~set) == 0) {
                            now[set] = Math.min(now[set], Math.max(alone[part], before[set & ~part]));
                        }
                    }
                }
            }
            System.arraycopy(now, 0, before, 0, SETS);
        }
    }

    /** A day of wells, shared out among buyers. */
    private static final class Market {
        private static final int SETS = 1 << MOST_WELLS;

        private final Land land;
        private final Book book;
        /** The most that buyers from one on get together, by the set of wells that are gone. */
        private final int[] table;

        Market(Land country, Book kept) {
            land = country;
            book = kept;
            table = new int[(BUYERS + 1) * SETS];
        }

        /** All together, one buyer being absent (NONE: none). */
        int most(int day, int absent) {
            for (int set = 0; set < SETS; set++) {
                table[BUYERS * SETS + set] = 0;
            }
            for (int buyer = BUYERS - 1; buyer >= 0; buyer--) {
                for (int set = 0; set < SETS; set++) {
                    int best = with(buyer, NONE, set);
                    for (int well = 0; well < land.wellCount && buyer != absent; well++) {
                        best = Math.max(best, with(buyer, well, set));
                    }
                    table[buyer * SETS + set] = best;
                }
            }
            return table[goneOn(day)];
        }

        /** The most, if a buyer gets that well (NONE: nothing); NONE: it is gone. */
        private int with(int buyer, int well, int gone) {
            int rest = (buyer + 1) * SETS;
            if (well == NONE) {
                return table[rest + gone];
            }
            if ((gone >> well & 1) != 0) {
                return NONE;
            }
            return book.offers[buyer * MOST_WELLS + well] + table[rest + (gone | 1 << well)];
        }

        private int goneOn(int day) {
            int gone = 0;
            for (int well = 0; well < land.wellCount; well++) {
                gone |= land.hushed(well, day) ? 1 << well : 0;
            }
            return gone;
        }

        int wellOf(int buyer, int day) {
            most(day, NONE);
            int gone = goneOn(day);
            int got = NONE;
            for (int b = 0; b <= buyer && b < BUYERS; b++) {
                got = firstBest(b, gone);
                gone |= got == NONE ? 0 : 1 << got;
            }
            return got;
        }

        private int firstBest(int buyer, int gone) {
            int best = table[buyer * SETS + gone];
            if (with(buyer, NONE, gone) == best) {
                return NONE;
            }
            for (int well = 0; well < land.wellCount; well++) {
                if (with(buyer, well, gone) == best) {
                    return well;
                }
            }
            return NONE;
        }

        int pays(int buyer, int day) {
            int without = most(day, buyer);
            int together = most(day, NONE);
            int got = wellOf(buyer, day);
            int own = got == NONE ? 0 : book.offers[buyer * MOST_WELLS + got];
            return without - (together - own);
        }
    }
}
