import java.util.ArrayList;
import java.util.Arrays;
import java.util.List;
import java.util.NoSuchElementException;
import java.util.TreeSet;

/**
 * The document told a second time, as slowly and plainly as can be: state by state, without sets as bits and without
 * tables. The random runs compare it with BitWells.
 */
final class SlowWells {
    static final class Fault extends RuntimeException {
        final int kind;
        final int place;

        Fault(int kind, int place) {
            this.kind = kind;
            this.place = place;
        }
    }

    static final class Token {
        final String text;
        final int at;

        Token(String text, int at) {
            this.text = text;
            this.at = at;
        }

        boolean word() {
            return !text.isEmpty() && text.charAt(0) >= 'a' && text.charAt(0) <= 'z';
        }

        boolean number() {
            return !text.isEmpty() && text.charAt(0) >= '0' && text.charAt(0) <= '9';
        }
    }

    static final class Vein {
        int k;
        int j;
        int from;
        int to;
    }

    static final class Well {
        int place;
        String letters;
        int d;
        int r;
        int dryFrom = -1;
        int dryTo = -1;
    }

    static final class Country {
        int n = 4;
        int places;
        List<Well> wells = new ArrayList<>();
        List<Vein> veins = new ArrayList<>();
        int[][] road = new int[8][8];
        int frostFrom = -1;
        int frostTo = -1;
        int is;

        int states() {
            return 1 << (n + veins.size());
        }
    }

    /** A tree: kind is a letter, or one of not [ if says and or. */
    static final class Tree {
        String kind;
        int well;
        Tree first;
        Tree other;

        Tree(String kind, Tree first, Tree other) {
            this.kind = kind;
            this.first = first;
            this.other = other;
        }
    }

    static final class Told {
        int well;
        Tree tree;
        int day;
        int said;
        int leftBehind;
    }

    static final class Kept {
        int is;
        Tree[] questions = new Tree[6];
        Tree goal;
        List<Told> diary = new ArrayList<>();
        List<Told> hearsay = new ArrayList<>();
        int[][] offers = new int[6][6];

        Kept copy() {
            Kept k = new Kept();
            k.is = is;
            k.questions = questions.clone();
            k.goal = goal;
            k.diary = new ArrayList<>(diary);
            k.hearsay = new ArrayList<>(hearsay);
            for (int i = 0; i < 6; i++) {
                k.offers[i] = offers[i].clone();
            }
            return k;
        }
    }

    private final List<Integer> tape = new ArrayList<>();
    private Country land = new Country();
    private Kept kept = new Kept();
    private final List<Kept> images = new ArrayList<>();
    private int faultPlace = -1;
    private int refusedElements;
    private int refusedArguments;

    // ---- texts

    private static List<Token> tokens(List<Integer> bytes) {
        List<Token> list = new ArrayList<>();
        int i = 0;
        while (i < bytes.size()) {
            int c = bytes.get(i);
            int j = i;
            if (c == 32) {
                i++;
                continue;
            }
            boolean letter = c >= 'a' && c <= 'z';
            boolean digit = c >= '0' && c <= '9';
            StringBuilder sb = new StringBuilder();
            do {
                sb.append((char) (int) bytes.get(j));
                j++;
            } while (j < bytes.size() && (letter && bytes.get(j) >= 'a' && bytes.get(j) <= 'z'
                    || digit && bytes.get(j) >= '0' && bytes.get(j) <= '9'));
            list.add(new Token(sb.toString(), i));
            i = j;
        }
        list.add(new Token("", bytes.size()));
        return list;
    }

    private static int number(Token t, int least, int most) {
        if (!t.number()) {
            throw new Fault(1, t.at);
        }
        java.math.BigInteger v = new java.math.BigInteger(t.text);
        if (v.compareTo(java.math.BigInteger.valueOf(least)) < 0 || v.compareTo(java.math.BigInteger.valueOf(most)) > 0) {
            throw new Fault(2, t.at);
        }
        return v.intValue();
    }

    private static Country readCountry(List<Integer> bytes) {
        List<Token> ts = tokens(bytes);
        Country c = new Country();
        int p = 0;
        int clauses = 0;
        while (!ts.get(p).text.isEmpty()) {
            Token t = ts.get(p++);
            if (!Arrays.asList("atoms", "place", "road", "well", "lies", "dry", "vein", "frost", "is").contains(t.text)) {
                throw new Fault(1, t.at);
            }
            clauses++;
            if (clauses > 60) {
                throw new Fault(3, t.at);
            }
            switch (t.text) {
                case "atoms" -> {
                    if (clauses > 1) {
                        throw new Fault(4, t.at);
                    }
                    c.n = number(ts.get(p++), 1, 4);
                }
                case "place" -> {
                    c.places++;
                    if (c.places > 8) {
                        throw new Fault(3, t.at);
                    }
                }
                case "road" -> {
                    int a = number(ts.get(p++), 0, c.places - 1);
                    Token tb = ts.get(p++);
                    int b = number(tb, 0, c.places - 1);
                    if (a == b) {
                        throw new Fault(2, tb.at);
                    }
                    int h = number(ts.get(p++), 1, 9);
                    c.road[a][b] = h;
                    c.road[b][a] = h;
                }
                case "well" -> {
                    if (c.wells.size() == 6) {
                        throw new Fault(3, t.at);
                    }
                    Well w = new Well();
                    w.place = number(ts.get(p++), 0, c.places - 1);
                    Token m = ts.get(p++);
                    if (!m.word()) {
                        throw new Fault(1, m.at);
                    }
                    for (int i = 0; i < m.text.length(); i++) {
                        if (m.text.charAt(i) >= 'a' + c.n || m.text.indexOf(m.text.charAt(i)) != i) {
                            throw new Fault(2, m.at);
                        }
                    }
                    w.letters = m.text;
                    c.wells.add(w);
                }
                case "lies" -> {
                    Well w = c.wells.isEmpty() ? null : c.wells.get(0);
                    int k = number(ts.get(p++), 0, c.wells.size() - 1);
                    w = c.wells.get(k);
                    int d = number(ts.get(p++), 1, 30);
                    w.r = number(ts.get(p++), 0, d - 1);
                    w.d = d;
                }
                case "dry" -> {
                    int k = number(ts.get(p++), 0, c.wells.size() - 1);
                    int f = number(ts.get(p++), 0, 364);
                    int u = number(ts.get(p++), f, 364);
                    c.wells.get(k).dryFrom = f;
                    c.wells.get(k).dryTo = u;
                }
                case "vein" -> {
                    if (c.veins.size() == 2) {
                        throw new Fault(3, t.at);
                    }
                    Vein v = new Vein();
                    v.k = number(ts.get(p++), 0, c.wells.size() - 1);
                    Token tj = ts.get(p++);
                    v.j = number(tj, 0, c.wells.size() - 1);
                    if (v.j == v.k) {
                        throw new Fault(2, tj.at);
                    }
                    v.from = number(ts.get(p++), 0, 364);
                    v.to = number(ts.get(p++), v.from, 364);
                    c.veins.add(v);
                }
                case "frost" -> {
                    int f = number(ts.get(p++), 0, 364);
                    c.frostTo = number(ts.get(p++), f, 364);
                    c.frostFrom = f;
                }
                default -> c.is = number(ts.get(p++), 0, 63);
            }
            if (!ts.get(p).text.equals(";")) {
                throw new Fault(1, ts.get(p).at);
            }
            p++;
        }
        if (c.is >= c.states()) {
            throw new Fault(4, bytes.size());
        }
        return c;
    }

    private List<Token> ts;
    private int p;

    private Tree readTree(List<Integer> bytes) {
        ts = tokens(bytes);
        p = 0;
        Tree t = treeC(0);
        if (!ts.get(p).text.isEmpty()) {
            throw new Fault(1, ts.get(p).at);
        }
        return t;
    }

    private Tree treeC(int open) {
        Tree t = treeD(open);
        while (ts.get(p).text.equals("or")) {
            p++;
            t = new Tree("or", t, treeD(open));
        }
        return t;
    }

    private Tree treeD(int open) {
        Tree t = treeB(open);
        while (ts.get(p).text.equals("and")) {
            p++;
            t = new Tree("and", t, treeB(open));
        }
        return t;
    }

    private Tree treeB(int open) {
        Token t = ts.get(p++);
        if (Arrays.asList("[", "not", "if", "says").contains(t.text)) {
            if (open == 6) {
                throw new Fault(3, t.at);
            }
            switch (t.text) {
                case "[": {
                    Tree inner = treeC(open + 1);
                    if (!ts.get(p).text.equals("]")) {
                        throw new Fault(1, ts.get(p).at);
                    }
                    p++;
                    return inner;
                }
                case "not":
                    return new Tree("not", treeB(open + 1), null);
                case "if": {
                    Tree a = treeB(open + 1);
                    if (!ts.get(p).text.equals("then")) {
                        throw new Fault(1, ts.get(p).at);
                    }
                    p++;
                    return new Tree("if", a, treeB(open + 1));
                }
                default: {
                    int k = number(ts.get(p++), 0, land.wells.size() - 1);
                    Tree s = new Tree("says", treeB(open + 1), null);
                    s.well = k;
                    return s;
                }
            }
        }
        if (t.word() && t.text.length() == 1 && t.text.charAt(0) < 'a' + land.n) {
            return new Tree(t.text, null, null);
        }
        throw new Fault(1, t.at);
    }

    int feed(int a, int b, int c, int d, int e) {
        if (tape.size() > 580) {
            return -1;
        }
        for (int x : new int[] {a, b, c, d, e}) {
            for (int i = 3; i >= 0; i--) {
                tape.add((x >> (8 * i)) & 255);
            }
        }
        return tape.size();
    }

    private List<Integer> take(int n) {
        List<Integer> bytes = new ArrayList<>(tape.subList(0, n));
        tape.clear();
        return bytes;
    }

    int country(int n) {
        right(n >= 0 && n <= tape.size());
        try {
            land = readCountry(take(n));
        } catch (Fault f) {
            faultPlace = f.place;
            return f.kind - 10;
        }
        faultPlace = -1;
        kept = new Kept();
        kept.is = land.is;
        images.clear();
        return land.wells.size();
    }

    int question(int q, int n) {
        right(q >= 0 && q <= 5);
        right(n >= 0 && n <= tape.size() && n <= 150);
        try {
            kept.questions[q] = readTree(take(n));
        } catch (Fault f) {
            faultPlace = f.place;
            return f.kind - 10;
        }
        faultPlace = -1;
        return 1;
    }

    int goal(int n) {
        right(n >= 0 && n <= tape.size() && n <= 150);
        try {
            kept.goal = readTree(take(n));
        } catch (Fault f) {
            faultPlace = f.place;
            return f.kind - 10;
        }
        faultPlace = -1;
        return 1;
    }

    int fault() {
        return faultPlace;
    }

    int told(int what) {
        right(what >= 0 && what <= 7);
        return new int[] {land.n, land.places, land.wells.size(), land.veins.size(), land.states(), kept.is,
            kept.diary.size(), kept.hearsay.size()}[what];
    }

    int well(int well, int what) {
        thereWell(well);
        right(what >= 0 && what <= 5);
        Well w = land.wells.get(well);
        int bits = 0;
        for (char ch : w.letters.toCharArray()) {
            bits += 1 << (ch - 'a');
        }
        return new int[] {w.place, bits, w.d, w.r, w.dryFrom, w.dryTo}[what];
    }

    /** Bellman and Ford, against Floyd and Warshall. */
    private int way(int a, int b) {
        int[] best = new int[8];
        Arrays.fill(best, 9999);
        best[a] = 0;
        for (int round = 0; round < 8; round++) {
            for (int x = 0; x < 8; x++) {
                for (int y = 0; y < 8; y++) {
                    if (land.road[x][y] > 0 && best[x] + land.road[x][y] < best[y]) {
                        best[y] = best[x] + land.road[x][y];
                    }
                }
            }
        }
        return best[b] >= 9999 ? -1 : best[b];
    }

    int far(int a, int b) {
        thereWhen(a >= 0 && a < land.places);
        thereWhen(b >= 0 && b < land.places);
        return way(a, b);
    }

    // ---- what is so

    private boolean lie(int well, int day, int state) {
        int many = 0;
        Well w = land.wells.get(well);
        if (w.d > 0 && day % w.d == w.r) {
            many++;
        }
        for (int v = 0; v < land.veins.size(); v++) {
            Vein vein = land.veins.get(v);
            int who = (state >> (land.n + v)) % 2 == 0 ? vein.k : vein.j;
            if (who == well && day >= vein.from && day <= vein.to) {
                many++;
            }
        }
        return many % 2 == 1;
    }

    private boolean hush(int well, int day) {
        Well w = land.wells.get(well);
        boolean dry = w.dryFrom >= 0 && w.dryFrom <= day && day <= w.dryTo;
        boolean frost = land.frostFrom >= 0 && land.frostFrom <= day && day <= land.frostTo;
        return dry || frost;
    }

    private boolean so(Tree t, int day, int state) {
        if (t == null) {
            return false;
        }
        switch (t.kind) {
            case "not":
                return !so(t.first, day, state);
            case "and":
                return so(t.first, day, state) && so(t.other, day, state);
            case "or":
                return so(t.first, day, state) || so(t.other, day, state);
            case "if":
                return !so(t.first, day, state) || so(t.other, day, state);
            case "says":
                return answer(t.well, t.first, day, state) == 1;
            default:
                return (state >> (t.kind.charAt(0) - 'a')) % 2 == 1;
        }
    }

    private boolean knowsTree(int well, Tree t) {
        if (t == null) {
            return true;
        }
        if (t.kind.length() == 1) {
            return land.wells.get(well).letters.contains(t.kind);
        }
        return (!t.kind.equals("says") || t.well == well) && knowsTree(well, t.first) && knowsTree(well, t.other);
    }

    private int answer(int well, Tree t, int day, int state) {
        if (hush(well, day) || !knowsTree(well, t)) {
            return 2;
        }
        return so(t, day, state) != lie(well, day, state) ? 1 : 0;
    }

    boolean lies(int well, int day, int state) {
        thereWell(well);
        rightDay(day);
        rightState(state);
        return lie(well, day, state);
    }

    boolean silent(int well, int day) {
        thereWell(well);
        rightDay(day);
        return hush(well, day);
    }

    long states(int q, int day) {
        rightQuestion(q);
        rightDay(day);
        long bits = 0;
        for (int s = 0; s < land.states(); s++) {
            if (so(kept.questions[q], day, s)) {
                bits |= 1L << s;
            }
        }
        return bits;
    }

    boolean knows(int well, int q) {
        thereWell(well);
        rightQuestion(q);
        return knowsTree(well, kept.questions[q]);
    }

    int says(int well, int q, int day, int state) {
        thereWell(well);
        rightQuestion(q);
        rightDay(day);
        rightState(state);
        return answer(well, kept.questions[q], day, state);
    }

    // ---- the diary

    private boolean fits(Told t, int state) {
        return answer(t.well, t.tree, t.day, state) == t.said;
    }

    private TreeSet<Integer> leftBy(List<Told> diary) {
        TreeSet<Integer> left = new TreeSet<>();
        for (int s = 0; s < land.states(); s++) {
            boolean all = true;
            for (Told t : diary) {
                all &= fits(t, s);
            }
            if (all) {
                left.add(s);
            }
        }
        return left;
    }

    private TreeSet<Integer> leftNow() {
        return leftBy(kept.diary);
    }

    private static long bits(Iterable<Integer> set) {
        long bits = 0;
        for (int s : set) {
            bits |= 1L << s;
        }
        return bits;
    }

    int ask(int well, int q, int day) {
        thereWell(well);
        rightQuestion(q);
        rightDay(day);
        for (Told t : kept.diary) {
            if (t.well == well && t.day == day) {
                return -1;
            }
        }
        if (kept.diary.size() == 60) {
            return -2;
        }
        Told t = new Told();
        t.well = well;
        t.tree = kept.questions[q];
        t.day = day;
        t.said = answer(well, t.tree, day, kept.is);
        kept.diary.add(t);
        t.leftBehind = leftNow().size();
        return t.said;
    }

    long left() {
        return bits(leftNow());
    }

    int leftMany() {
        return leftNow().size();
    }

    int known(int day) {
        rightDay(day);
        TreeSet<Integer> left = leftNow();
        int yes = 0;
        for (int s : left) {
            yes += so(kept.goal, day, s) ? 1 : 0;
        }
        return left.isEmpty() ? -1 : yes == left.size() ? 1 : yes == 0 ? 0 : 2;
    }

    int vein(int v) {
        right(v >= 0 && v < land.veins.size());
        TreeSet<Integer> left = leftNow();
        int ones = 0;
        for (int s : left) {
            ones += (s >> (land.n + v)) & 1;
        }
        return left.isEmpty() ? -1 : ones == left.size() ? 1 : ones == 0 ? 0 : 2;
    }

    int diary(int i, int what) {
        right(what >= 0 && what <= 3);
        if (i < 0 || i >= kept.diary.size()) {
            return -1;
        }
        Told t = kept.diary.get(i);
        return new int[] {t.well, t.day, t.said, t.leftBehind}[what];
    }

    int tear(int i) {
        int gone = 0;
        while (kept.diary.size() > Math.max(i, 0)) {
            kept.diary.remove(kept.diary.size() - 1);
            gone++;
        }
        return gone;
    }

    int weightiest() {
        int best = -1;
        int most = -1;
        for (int i = 0; i < kept.diary.size(); i++) {
            List<Told> rest = new ArrayList<>(kept.diary);
            rest.remove(i);
            int many = leftBy(rest).size();
            if (many > most) {
                most = many;
                best = i;
            }
        }
        return best;
    }

    int brief() {
        int n = kept.diary.size();
        if (n > 12) {
            return -1;
        }
        long[] fit = new long[n];
        for (int i = 0; i < n; i++) {
            fit[i] = bits(leftBy(kept.diary.subList(i, i + 1)));
        }
        int best = -1;
        for (int m = 0; m < 1 << n; m++) {
            long left = bits(leftBy(new ArrayList<>()));
            for (int i = 0; i < n; i++) {
                if ((m >> i & 1) == 1) {
                    left &= fit[i];
                }
            }
            if (left == left() && (best < 0 || Integer.bitCount(m) < Integer.bitCount(best))) {
                best = m;
            }
        }
        return best;
    }

    // ---- hearsay

    int hear(int well, int q, int day, int said) {
        thereWell(well);
        rightQuestion(q);
        rightDay(day);
        right(said >= 0 && said <= 2);
        if (kept.hearsay.size() == 10) {
            return -1;
        }
        Told t = new Told();
        t.well = well;
        t.tree = kept.questions[q];
        t.day = day;
        t.said = said;
        kept.hearsay.add(t);
        return kept.hearsay.size();
    }

    /** All sets to strike out, from none on. */
    private int struck(TreeSet<Integer> trusted) {
        TreeSet<Integer> left = leftNow();
        int n = kept.hearsay.size();
        boolean[][] fit = new boolean[n][64];
        for (int i = 0; i < n; i++) {
            for (int s : left) {
                fit[i][s] = fits(kept.hearsay.get(i), s);
            }
        }
        for (int many = 0; many <= n; many++) {
            for (int m = 0; m < 1 << n; m++) {
                if (Integer.bitCount(m) != many) {
                    continue;
                }
                trusted.clear();
                for (int s : left) {
                    boolean all = true;
                    for (int i = 0; i < n; i++) {
                        all &= (m >> i & 1) == 1 || fit[i][s];
                    }
                    if (all) {
                        trusted.add(s);
                    }
                }
                if (!trusted.isEmpty()) {
                    return m;
                }
            }
        }
        return -1;
    }

    int hearsay(int what) {
        right(what == 0 || what == 1);
        int m = struck(new TreeSet<>());
        return m < 0 ? -1 : what == 1 ? m : Integer.bitCount(m);
    }

    long trusted() {
        TreeSet<Integer> t = new TreeSet<>();
        struck(t);
        return bits(t);
    }

    int deaf() {
        int n = kept.hearsay.size();
        kept.hearsay.clear();
        return n;
    }

    // ---- which asking

    private boolean isKnown(Iterable<Integer> states, int day) {
        boolean some = false;
        boolean other = false;
        for (int s : states) {
            if (so(kept.goal, day, s)) {
                some = true;
            } else {
                other = true;
            }
        }
        return !(some && other);
    }

    private List<TreeSet<Integer>> partsBy(Iterable<Integer> states, int well, Tree q, int day) {
        List<TreeSet<Integer>> parts = new ArrayList<>();
        for (int said = 0; said < 3; said++) {
            parts.add(new TreeSet<>());
        }
        for (int s : states) {
            parts.get(answer(well, q, day, s)).add(s);
        }
        return parts;
    }

    int parts(int day, int what) {
        rightDay(day);
        right(what == 0 || what == 1);
        TreeSet<Integer> left = leftNow();
        int best = -1;
        int which = -1;
        for (int w = 0; w < land.wells.size(); w++) {
            for (int q = 0; q < 6; q++) {
                if (kept.questions[q] == null) {
                    continue;
                }
                int worst = 0;
                for (TreeSet<Integer> part : partsBy(left, w, kept.questions[q], day)) {
                    worst = Math.max(worst, part.size());
                }
                if (best < 0 || worst < best) {
                    best = worst;
                    which = 10 * w + q;
                }
            }
        }
        return what == 0 ? best : which;
    }

    int enough(int day, int what) {
        rightDay(day);
        right(what == 0 || what == 1);
        TreeSet<Integer> left = leftNow();
        int n = land.wells.size();
        int[][][] said = new int[6][6][64];
        boolean[] goal = new boolean[64];
        for (int s : left) {
            goal[s] = so(kept.goal, day, s);
            for (int w = 0; w < n; w++) {
                for (int q = 0; q < 6; q++) {
                    said[w][q][s] = answer(w, kept.questions[q], day, s);
                }
            }
        }
        int rows = 1;
        for (int w = 0; w < n; w++) {
            rows *= 7;
        }
        int best = -1;
        int bestRow = -1;
        for (int r = 0; r < rows; r++) {
            int[] row = new int[n];
            int rest = r;
            int many = 0;
            boolean fine = true;
            for (int w = n - 1; w >= 0; w--) {
                row[w] = rest % 7;
                rest /= 7;
                many += row[w] > 0 ? 1 : 0;
                fine &= row[w] == 0 || kept.questions[row[w] - 1] != null;
            }
            if (!fine || best >= 0 && many >= best) {
                continue;
            }
            int[] seen = new int[729];
            for (int s : left) {
                int all = 0;
                for (int w = 0; w < n; w++) {
                    all = 3 * all + (row[w] == 0 ? 0 : said[w][row[w] - 1][s]);
                }
                seen[all] |= goal[s] ? 1 : 2;
                fine &= seen[all] != 3;
            }
            if (fine) {
                best = many;
                bestRow = 0;
                for (int w = 0; w < n; w++) {
                    bestRow = 10 * bestRow + row[w];
                }
            }
        }
        return what == 0 ? best : bestRow;
    }

    int trick(int well, int day) {
        thereWell(well);
        rightDay(day);
        for (int q = 0; q < 6; q++) {
            if (kept.questions[q] != null) {
                boolean all = true;
                for (TreeSet<Integer> part : partsBy(leftNow(), well, kept.questions[q], day)) {
                    all &= isKnown(part, day);
                }
                if (all) {
                    return q;
                }
            }
        }
        return -1;
    }

    private boolean toldApart(int well, int s, int t, int day) {
        for (int q = 0; q < 6; q++) {
            if (kept.questions[q] != null
                    && answer(well, kept.questions[q], day, s) != answer(well, kept.questions[q], day, t)) {
                return true;
            }
        }
        return false;
    }

    int cant(int day, int what) {
        rightDay(day);
        right(what == 0 || what == 1);
        TreeSet<Integer> left = leftNow();
        for (int s : left) {
            for (int t : left.tailSet(s, false)) {
                if (so(kept.goal, day, s) != so(kept.goal, day, t)) {
                    boolean apart = false;
                    for (int w = 0; w < land.wells.size() && !apart; w++) {
                        apart = toldApart(w, s, t, day);
                    }
                    if (!apart) {
                        return what == 0 ? s : t;
                    }
                }
            }
        }
        return -1;
    }

    int atoms(int day) {
        rightDay(day);
        TreeSet<Integer> left = leftNow();
        int best = -1;
        for (int m = 0; m < 1 << land.n; m++) {
            boolean fine = true;
            for (int s : left) {
                for (int t : left) {
                    fine &= (s & m) != (t & m) || so(kept.goal, day, s) == so(kept.goal, day, t);
                }
            }
            if (fine && (best < 0 || Integer.bitCount(m) < Integer.bitCount(best))) {
                best = m;
            }
        }
        return best;
    }

    int spare(int day) {
        rightDay(day);
        TreeSet<Integer> left = leftNow();
        int n = land.wells.size();
        int spare = 0;
        for (int w = 0; w < n; w++) {
            boolean fine = true;
            for (int s : left) {
                for (int t : left.tailSet(s, false)) {
                    if (so(kept.goal, day, s) == so(kept.goal, day, t) || !fine) {
                        continue;
                    }
                    boolean all = false;
                    boolean others = false;
                    for (int v = 0; v < n; v++) {
                        boolean apart = toldApart(v, s, t, day);
                        all |= apart;
                        others |= apart && v != w;
                    }
                    fine &= !all || others;
                }
            }
            spare |= fine ? 1 << w : 0;
        }
        return spare;
    }

    private int planFirst;

    /** By the day of the last asking; 9999: there is no plan. */
    private int planLast(int place, int day, boolean asked, TreeSet<Integer> left, int askings, boolean top) {
        int best = 9999;
        if (askings == 0) {
            return best;
        }
        for (int w = 0; w < land.wells.size(); w++) {
            int way = way(place, land.wells.get(w).place);
            if (way < 0) {
                continue;
            }
            int then = day + way;
            if (asked && then == day) {
                then++;
            }
            if (then > 364) {
                continue;
            }
            for (int q = 0; q < 6; q++) {
                if (kept.questions[q] == null) {
                    continue;
                }
                int worst = -1;
                for (TreeSet<Integer> part : partsBy(left, w, kept.questions[q], then)) {
                    if (!part.isEmpty() && worst < 9999) {
                        int last = isKnown(part, then) ? then
                                : planLast(land.wells.get(w).place, then, true, part, askings - 1, false);
                        worst = Math.max(worst, last);
                    }
                }
                if (worst < best) {
                    best = worst;
                    if (top) {
                        planFirst = 10 * w + q;
                    }
                }
            }
        }
        return best;
    }

    int plan(int place, int day, int what) {
        thereWhen(place >= 0 && place < land.places);
        rightDay(day);
        right(what == 0 || what == 1);
        TreeSet<Integer> left = leftNow();
        if (isKnown(left, day)) {
            return what == 0 ? 0 : -1;
        }
        planFirst = -1;
        int last = planLast(place, day, false, left, 3, true);
        return last == 9999 ? -1 : what == 0 ? last - day : planFirst;
    }

    int yes(int well, int day) {
        thereWell(well);
        rightDay(day);
        int m = 0;
        for (int q = 0; q < 6; q++) {
            boolean all = kept.questions[q] != null;
            for (int s : leftNow()) {
                all = all && answer(well, kept.questions[q], day, s) == 1;
            }
            m |= all ? 1 << q : 0;
        }
        return m;
    }

    int alike(int q, int o, int day) {
        rightQuestion(q);
        rightQuestion(o);
        rightDay(day);
        int n = 0;
        for (int s = 0; s < land.states(); s++) {
            n += so(kept.questions[q], day, s) == so(kept.questions[o], day, s) ? 1 : 0;
        }
        return n;
    }

    // ---- roads: every order, every rider

    private int ride(int at, int home, int wells) {
        if (wells == 0) {
            return home < 0 ? 0 : way(at, home);
        }
        int best = 99999;
        for (int w = 0; w < land.wells.size(); w++) {
            if ((wells >> w & 1) == 1) {
                int place = land.wells.get(w).place;
                best = Math.min(best, way(at, place) + ride(place, home, wells & ~(1 << w)));
            }
        }
        return best;
    }

    private boolean reach(int place, int wells) {
        for (int w = 0; w < land.wells.size(); w++) {
            if ((wells >> w & 1) == 1 && way(place, land.wells.get(w).place) < 0) {
                return false;
            }
        }
        return true;
    }

    int riders(int place, int many, int wells) {
        thereWhen(place >= 0 && place < land.places);
        right(many >= 1 && many <= 3);
        right(wells >= 0 && wells < 1 << land.wells.size());
        if (!reach(place, wells)) {
            return -1;
        }
        int[] one = new int[64];
        for (int m = 0; m < 64; m++) {
            one[m] = (m & ~wells) == 0 ? ride(place, -1, m) : 0;
        }
        int best = 99999;
        int ways = 1;
        for (int i = 0; i < land.wells.size(); i++) {
            ways *= many;
        }
        for (int x = 0; x < ways; x++) {
            int[] sets = new int[3];
            int rest = x;
            for (int w = 0; w < land.wells.size(); w++) {
                sets[rest % many] |= wells & 1 << w;
                rest /= many;
            }
            best = Math.min(best, Math.max(one[sets[0]], Math.max(one[sets[1]], one[sets[2]])));
        }
        return best;
    }

    int tour(int place, int wells) {
        thereWhen(place >= 0 && place < land.places);
        right(wells >= 0 && wells < 1 << land.wells.size());
        return reach(place, wells) ? ride(place, place, wells) : -1;
    }

    // ---- days sold: every way in order

    int offer(int b, int well, int price) {
        thereWell(well);
        right(b >= 0 && b <= 5);
        right(price >= 0 && price <= 99);
        int was = kept.offers[b][well];
        kept.offers[b][well] = price;
        return was;
    }

    private int bestSum;
    private int[] bestWay;

    private void share(int b, int day, int absent, int sum, int[] way) {
        if (b == 6) {
            if (sum > bestSum) {
                bestSum = sum;
                bestWay = way.clone();
            }
            return;
        }
        way[b] = -1;
        share(b + 1, day, absent, sum, way);
        for (int w = 0; w < land.wells.size() && b != absent; w++) {
            boolean gone = hush(w, day);
            for (int i = 0; i < b; i++) {
                gone |= way[i] == w;
            }
            if (!gone) {
                way[b] = w;
                share(b + 1, day, absent, sum + kept.offers[b][w], way);
            }
        }
        way[b] = -1;
    }

    private int shareAll(int day, int absent) {
        bestSum = -1;
        share(0, day, absent, 0, new int[6]);
        return bestSum;
    }

    int shared(int b, int day) {
        right(b >= 0 && b <= 5);
        rightDay(day);
        shareAll(day, -1);
        return bestWay[b];
    }

    int sold(int day, int what) {
        rightDay(day);
        right(what >= 0 && what <= 6);
        int sum = shareAll(day, -1);
        if (what == 0) {
            return sum;
        }
        int others = 0;
        for (int i = 0; i < 6; i++) {
            others += i != what - 1 && bestWay[i] >= 0 ? kept.offers[i][bestWay[i]] : 0;
        }
        return shareAll(day, what - 1) - others;
    }

    // ---- marks, years

    private static List<Integer> words(int n, int lost) {
        List<Integer> taken = new ArrayList<>();
        for (int w = 0; w < 1 << n; w++) {
            boolean fine = true;
            for (int t : taken) {
                int unlike = 0;
                for (int i = 0; i < n; i++) {
                    unlike += (w >> i & 1) != (t >> i & 1) ? 1 : 0;
                }
                fine &= unlike > lost;
            }
            if (fine) {
                taken.add(w);
            }
        }
        return taken;
    }

    int marks(int words, int lost) {
        right(words >= 1 && words <= 256);
        right(lost >= 0 && lost <= 3);
        for (int n = 1; n <= 8; n++) {
            if (words(n, lost).size() >= words) {
                return n;
            }
        }
        return -1;
    }

    int code(int n, int lost, int i) {
        right(n >= 1 && n <= 8);
        right(lost >= 0 && lost <= 3);
        List<Integer> list = words(n, lost);
        return i < 0 || i >= list.size() ? -1 : list.get(i);
    }

    private static boolean[] frosts(int seed, int q) {
        boolean[] frost = new boolean[365];
        long s = seed & 0xFFFFFFFFL;
        for (int day = 0; day < 365; day++) {
            s = (s * 1103515245L + 12345L) % 4294967296L;
            frost[day] = s / 65536 % 16 < q;
        }
        return frost;
    }

    int year(int well, int seed, int q) {
        thereWell(well);
        right(q >= 0 && q <= 16);
        boolean[] frost = frosts(seed, q);
        int n = 0;
        for (int day = 0; day < 365; day++) {
            n += !frost[day] && !hush(well, day) ? 1 : 0;
        }
        return n;
    }

    int drought(int seed, int q) {
        right(q >= 0 && q <= 16);
        boolean[] frost = frosts(seed, q);
        int best = 0;
        for (int from = 0; from < 365; from++) {
            int day = from;
            while (day < 365) {
                boolean some = false;
                for (int w = 0; w < land.wells.size(); w++) {
                    some |= !frost[day] && !hush(w, day);
                }
                if (some) {
                    break;
                }
                day++;
            }
            best = Math.max(best, day - from);
        }
        return land.wells.isEmpty() ? 0 : best;
    }

    int be(int state) {
        rightState(state);
        int was = kept.is;
        kept.is = state;
        return was;
    }

    int parting(int well, int q) {
        thereWell(well);
        rightQuestion(q);
        TreeSet<Integer> left = leftNow();
        int n = 0;
        for (int day = 0; day < 365; day++) {
            TreeSet<Integer> said = new TreeSet<>();
            for (int s : left) {
                said.add(answer(well, kept.questions[q], day, s));
            }
            n += said.size() > 1 ? 1 : 0;
        }
        return n;
    }

    int lying(int well, int what) {
        thereWell(well);
        right(what == 0 || what == 1);
        List<Integer> days = new ArrayList<>();
        for (int day = 0; day < 365; day++) {
            if (lie(well, day, kept.is)) {
                days.add(day);
            }
        }
        return what == 0 ? days.size() : days.isEmpty() ? -1 : days.get(0);
    }

    int agree(int well, int other, int q) {
        thereWell(well);
        thereWell(other);
        rightQuestion(q);
        int n = 0;
        for (int day = 0; day < 365; day++) {
            int a = answer(well, kept.questions[q], day, kept.is);
            int b = answer(other, kept.questions[q], day, kept.is);
            n += a == b && a != 2 ? 1 : 0;
        }
        return n;
    }

    int learned(int day) {
        rightDay(day);
        int best = -1;
        int most = -1;
        for (int w = 0; w < land.wells.size(); w++) {
            int n = 0;
            for (int q = 0; q < 6; q++) {
                n += kept.questions[q] != null && knowsTree(w, kept.questions[q]) ? 1 : 0;
            }
            if (!hush(w, day) && n > most) {
                most = n;
                best = w;
            }
        }
        return best;
    }

    int waits(int well, int day) {
        thereWell(well);
        rightDay(day);
        int then = day;
        while (then <= 364 && hush(well, then)) {
            then++;
        }
        return then > 364 ? -1 : then - day;
    }

    int odds(int day, int what) {
        rightDay(day);
        right(what == 0 || what == 1);
        int above = 0;
        int below = 0;
        for (int s : leftNow()) {
            above += so(kept.goal, day, s) ? 1 : 0;
            below++;
        }
        if (below == 0) {
            return what == 0 ? 0 : 1;
        }
        int g = java.math.BigInteger.valueOf(above).gcd(java.math.BigInteger.valueOf(below)).intValue();
        return what == 0 ? above / g : below / g;
    }

    int image() {
        if (images.size() == 3) {
            return -1;
        }
        images.add(kept.copy());
        return images.size();
    }

    int restore() {
        if (images.isEmpty()) {
            return -1;
        }
        kept = images.remove(images.size() - 1);
        return images.size();
    }

    int status(int what) {
        return what == 0 ? refusedElements : what == 1 ? refusedArguments : -1;
    }

    int count(int what) {
        return what == 0 ? images.size() : what == 1 ? tape.size() : -1;
    }

    private void right(boolean fine) {
        if (!fine) {
            refusedArguments++;
            throw new IllegalArgumentException();
        }
    }

    private void thereWhen(boolean fine) {
        if (!fine) {
            refusedElements++;
            throw new NoSuchElementException();
        }
    }

    private void thereWell(int well) {
        thereWhen(well >= 0 && well < land.wells.size());
    }

    private void rightDay(int day) {
        right(day >= 0 && day <= 364);
    }

    private void rightState(int state) {
        right(state >= 0 && state < land.states());
    }

    private void rightQuestion(int q) {
        right(q >= 0 && q <= 5);
    }
}
