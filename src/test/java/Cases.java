import java.lang.annotation.ElementType;
import java.lang.annotation.Retention;
import java.lang.annotation.RetentionPolicy;
import java.lang.annotation.Target;
import java.lang.reflect.InvocationTargetException;
import java.lang.reflect.Method;
import java.util.ArrayList;
import java.util.Comparator;
import java.util.List;
import java.util.NoSuchElementException;

/**
 * What the tests of the boundary cases share. A case has a name that begins with its promise (p03_roadOf10Days), the
 * document's own words for it, and a body that throws where an answer is not the one that is due.
 */
final class Cases {
    /** The words of the document that a case holds the class to; BoundaryCoverTest looks whether they stand there. */
    @Retention(RetentionPolicy.RUNTIME)
    @Target(ElementType.METHOD)
    @interface Says {
        String[] value();
    }

    interface Body {
        void play() throws ReflectiveOperationException;
    }

    interface Call {
        long answer();
    }

    record Case(String name, String[] words, Body body) { }

    static final Class<?> NO_ELEMENT = NoSuchElementException.class;
    static final Class<?> WRONG = IllegalArgumentException.class;
    static final int LAST_DAY = 364;

    private final List<Case> cases = new ArrayList<>();

    /** The methods of a class that are named by a promise, in the order of their names. */
    static Cases of(Class<?> tests) {
        Cases found = new Cases();
        List<Method> methods = new ArrayList<>(List.of(tests.getDeclaredMethods()));
        methods.sort(Comparator.comparing(Method::getName));
        for (Method m : methods) {
            if (m.getName().matches("p\\d\\d_.*")) {
                m.setAccessible(true);
                Says says = m.getAnnotation(Says.class);
                found.with(m.getName(), says == null ? new String[0] : says.value(), () -> m.invoke(null));
            }
        }
        return found;
    }

    Cases with(String name, String[] words, Body body) {
        cases.add(new Case(name, words, body));
        return this;
    }

    List<Case> all() {
        return cases;
    }

    /** Plays all of them, tells which fail, and ends with 1 if one did. */
    void play() {
        int failed = 0;
        for (Case c : cases) {
            String why = failure(c);
            if (why != null) {
                failed++;
                System.out.println(c.name() + ": " + why);
            }
        }
        System.out.println(cases.size() + " boundary cases, " + failed + " fail");
        if (failed != 0 || cases.isEmpty()) {
            System.exit(1);
        }
    }

    private static String failure(Case c) {
        try {
            c.body().play();
            return null;
        } catch (InvocationTargetException e) {
            return told(e.getCause());
        } catch (ReflectiveOperationException | RuntimeException | AssertionError e) {
            return told(e);
        }
    }

    private static String told(Throwable t) {
        return t instanceof AssertionError ? t.getMessage() : t + " at " + t.getStackTrace()[0];
    }

    // ---- what is due

    static void due(String what, long want, long got) {
        if (got != want) {
            throw new AssertionError(what + " answered " + got + ", due is " + want);
        }
    }

    static void so(String what, boolean want, boolean got) {
        due(what, want ? 1 : 0, got ? 1 : 0);
    }

    static void refused(String what, Class<?> want, Call call) {
        String got;
        try {
            got = "" + call.answer();
        } catch (RuntimeException e) {
            got = e.getClass().getName();
        }
        if (!got.equals(want.getName())) {
            throw new AssertionError(what + " answered " + got + ", due is " + want.getName());
        }
    }

    static long bit(boolean truth) {
        return truth ? 1 : 0;
    }

    // ---- texts

    /** Puts a text on the tape, filled up with bytes of 0 to twenties. */
    static void feed(BitWells x, String text) {
        for (int i = 0; i < text.length(); i += 20) {
            int[] five = new int[5];
            for (int k = 0; k < 20; k++) {
                int c = i + k < text.length() ? text.charAt(i + k) : 0;
                five[k / 4] = five[k / 4] << 8 | c;
            }
            x.feed(five[0], five[1], five[2], five[3], five[4]);
        }
    }

    /** A text of no bytes is no goal, so that all but the tape (and the place of the fault) stays. */
    static BitWells emptyTape(BitWells x) {
        due("a goal of no bytes", -9, x.goal(0));
        return x;
    }

    static int country(BitWells x, String text) {
        feed(x, text);
        return x.country(text.length());
    }

    static int question(BitWells x, int q, String text) {
        feed(x, text);
        return x.question(q, text.length());
    }

    static int goal(BitWells x, String text) {
        feed(x, text);
        return x.goal(text.length());
    }

    static void ask(BitWells x, String[] questions) {
        for (int q = 0; q < questions.length; q++) {
            due("the question " + questions[q], 1, question(x, q, questions[q]));
        }
    }

    /** A country with questions, from 0 on. */
    static BitWells land(String text, String... questions) {
        BitWells x = new BitWells();
        if (country(x, text) < 0) {
            throw new AssertionError("the country " + text + " has a fault at " + x.fault());
        }
        ask(x, questions);
        return x;
    }

    static BitWells aim(BitWells x, String text) {
        due("the goal " + text, 1, goal(x, text));
        return x;
    }

    // ---- an object with something of all there is

    /**
     * Places 0, 1, 2 in a row and 3 that can't be come to; a well of a and b at place 0 that lies on odd days, one of a at
     * place 1, dry from 10 to 12, one of b at place 2; a vein of the last two; frost on 20 and 21; states 0 to 7, 1 is so.
     */
    static BitWells rich() {
        BitWells x = land("atoms 2;place;place;place;place;road 0 1 2;road 1 2 3;well 0 ab;well 1 a;well 2 b;"
                + "lies 0 2 1;dry 1 10 12;vein 1 2 30 40;frost 20 21;is 1;", "a and b", "a", "b", "says 0 a");
        aim(x, "a or b");
        x.offer(1, 2, 7);
        x.ask(0, 1, 3);
        x.hear(2, 2, 0, 1);
        x.image();
        x.be(5);
        x.ask(1, 1, 35);
        x.hear(1, 1, 0, 0);
        x.offer(2, 1, 42);
        question(x, 5, "a a");
        x.feed(0x61202020, 0x20202020, 0x20202020, 0x20202020, 0x20202020);
        return x;
    }

    /** What an object tells of all that it keeps, but for the calls that it refused. */
    static List<Long> digest(BitWells x) {
        List<Long> all = new ArrayList<>();
        for (int what = 0; what < 8; what++) {
            all.add((long) x.told(what));
        }
        for (int w = 0; w < x.told(2); w++) {
            for (int what = 0; what < 6; what++) {
                all.add((long) x.well(w, what));
            }
            all.add((long) x.lying(w, 0));
        }
        for (int q = 0; q < 6; q++) {
            all.add(x.states(q, 30));
        }
        for (int i = 0; i < Math.min(3, x.told(6)); i++) {
            for (int what = 0; what < 4; what++) {
                all.add((long) x.diary(i, what));
            }
        }
        long[] rest = {x.left(), x.trusted(), x.hearsay(1), x.known(30), x.odds(30, 0), x.sold(0, 0), x.shared(1, 0),
            x.shared(2, 0), x.parts(30, 1), x.fault(), x.count(0), x.count(1)};
        for (long one : rest) {
            all.add(one);
        }
        return all;
    }

    static void same(String what, List<Long> want, List<Long> got) {
        if (!got.equals(want)) {
            throw new AssertionError(what + " changed the object: " + got + ", it was " + want);
        }
    }
}
