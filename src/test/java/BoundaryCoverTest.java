import java.io.IOException;
import java.nio.file.Files;
import java.nio.file.Path;
import java.util.BitSet;
import java.util.HashSet;
import java.util.List;
import java.util.Set;
import java.util.regex.Matcher;
import java.util.regex.Pattern;

/**
 * Holds the boundary cases against the document: each has a name of its own that begins with a promise, the words that a
 * case is told to be of stand in the document, and there is no bound in it that no case is of: those of a promise's own
 * words are of cases of that promise, those of the terms of any.
 */
public final class BoundaryCoverTest {
    private static final Path DOCUMENT = Path.of("../shared/DOC.md");
    private static final int PROMISES = 56;
    /** What tells of a bound: a number, or a word of too much, too little, none, the first, the last, or a refusal. */
    private static final Pattern BOUND = Pattern.compile("\\b(\\d[\\d,]*|NONE|\\w+Exception|at most|up to|no|none|not|empty|without|too"
            + "|once|twice|first|last|least|fewest|most|full|already|alone|wraps|none such|others|gone|goes|go|stays?|less|more|half)\\b");
    private static final Pattern SIGNATURE = Pattern.compile("^`[^`]+`:", Pattern.MULTILINE);
    private static int wrong = 0;

    private static void want(boolean fine, String what) {
        if (!fine) {
            wrong++;
            System.out.println(what);
        }
    }

    private static List<Cases> all() {
        return List.of(BoundaryArgumentsTest.cases(), BoundaryCountryTest.cases(), BoundaryPhraseTest.cases(), BoundaryWellsTest.cases(),
                BoundaryDiaryTest.cases(), BoundaryAskingTest.cases(), BoundaryRoadsTest.cases(), BoundaryKeptTest.cases());
    }

    private static int promise(String name) {
        Matcher m = Pattern.compile("p(\\d\\d)_\\w+").matcher(name);
        return m.matches() ? Integer.parseInt(m.group(1)) : 0;
    }

    private static void mark(BitSet covered, String document, String words) {
        for (int at = document.indexOf(words); at >= 0; at = document.indexOf(words, at + 1)) {
            covered.set(at, at + words.length());
        }
    }

    /** The numbers of the parts of the terms (==== 2.) are no bounds. */
    private static boolean isPart(String document, int at) {
        return document.startsWith("==== ", Math.max(0, at - 5));
    }

    private static void uncovered(String document, String where, int from, int to, BitSet covered) {
        Matcher m = BOUND.matcher(document).region(from, to);
        while (m.find()) {
            if (covered.nextClearBit(m.start()) < m.end() && !isPart(document, m.start())) {
                String around = document.substring(Math.max(from, m.start() - 40), Math.min(to, m.end() + 40)).replace('\n', ' ');
                want(false, where + ": no case is of '" + m.group() + "' in '.." + around + "..'");
            }
        }
    }

    public static void main(String[] args) throws IOException {
        String document = Files.readString(DOCUMENT);
        Set<String> names = new HashSet<>();
        BitSet terms = new BitSet();
        BitSet[] own = new BitSet[PROMISES + 1];
        for (int p = 1; p <= PROMISES; p++) {
            own[p] = new BitSet();
        }
        for (Cases cases : all()) {
            for (Cases.Case c : cases.all()) {
                int p = promise(c.name());
                want(p >= 1 && p <= PROMISES, c.name() + " is of no promise");
                want(names.add(c.name()), c.name() + " is there twice");
                want(c.words().length > 0, c.name() + " is of no words");
                for (String words : c.words()) {
                    want(document.contains(words), c.name() + " is of words that the document has not: " + words);
                    mark(terms, document, words);
                    mark(own[Math.max(1, Math.min(p, PROMISES))], document, words);
                }
            }
        }
        sections(document, terms, own);
        if (args.length > 0) {
            list(args[0]);
        }
        System.out.println(names.size() + " boundary cases, " + wrong + " faults in what they are of");
        if (wrong != 0) {
            System.exit(1);
        }
    }

    /** The cases whose names begin so, each with the words that it is of. */
    private static void list(String beginning) {
        for (Cases cases : all()) {
            for (Cases.Case c : cases.all()) {
                if (c.name().startsWith(beginning)) {
                    System.out.println(c.name() + ": " + String.join(" | ", c.words()));
                }
            }
        }
    }

    private static void sections(String document, BitSet terms, BitSet[] own) {
        int from = document.indexOf("## Terms");
        for (int p = 1; p <= PROMISES; p++) {
            int to = document.indexOf("## Promise " + p + ":", from);
            want(from >= 0 && to > from, "the document has no promise " + p);
            section(document, p - 1, from, to, terms, own);
            from = to;
        }
        section(document, PROMISES, from, document.indexOf("## Not promised"), terms, own);
    }

    /** 0: the terms. What stands ahead of a promise's words (its heading, the call) has no bound. */
    private static void section(String document, int p, int from, int to, BitSet terms, BitSet[] own) {
        if (p == 0) {
            uncovered(document, "Terms", document.indexOf('\n', from), to, terms);
            return;
        }
        Matcher signature = SIGNATURE.matcher(document).region(from, to);
        want(signature.find(), "promise " + p + " has no call");
        uncovered(document, "Promise " + p, signature.end(), to, own[p]);
    }
}
