import java.lang.reflect.InvocationTargetException;
import java.lang.reflect.Method;
import java.lang.reflect.Modifier;
import java.util.ArrayList;
import java.util.Arrays;
import java.util.Comparator;
import java.util.List;
import java.util.Random;

/** Runs of random calls with fixed seeds, answered by BitWells and by SlowWells: each answer must be the same. */
public final class RandomRunsTest {
    private static final int RUNS = 220;
    private static final int CALLS = 500;
    private static int wrong = 0;
    private static long answered = 0;
    private static long refused = 0;

    private final Random random;
    private final BitWells fast = new BitWells();
    private final SlowWells slow = new SlowWells();
    private final List<String> told = new ArrayList<>();
    private final int run;

    private RandomRunsTest(int run) {
        this.run = run;
        random = new Random(run);
    }

    private static String answer(Object on, Method m, Object[] args) throws IllegalAccessException {
        try {
            return String.valueOf(m.invoke(on, args));
        } catch (InvocationTargetException e) {
            return "throws." + e.getCause().getClass().getSimpleName();
        }
    }

    private static Method slowly(Method m) throws NoSuchMethodException {
        return SlowWells.class.getDeclaredMethod(m.getName(), m.getParameterTypes());
    }

    private boolean same(Method m, Object... args) throws ReflectiveOperationException {
        String want = answer(slow, slowly(m), args);
        String got = answer(fast, m, args);
        String call = m.getName() + Arrays.toString(args);
        told.add(call + " = " + got);
        answered++;
        refused += got.startsWith("throws") ? 1 : 0;
        if (!got.equals(want)) {
            wrong++;
            System.out.println("run " + run + ", call " + told.size() + ": " + call + " answered " + got + ", due is " + want);
            if (wrong == 1) {
                told.forEach(System.out::println);
            }
            return false;
        }
        return true;
    }

    private static Method method(String name) {
        for (Method m : BitWells.class.getDeclaredMethods()) {
            if (m.getName().equals(name) && Modifier.isPublic(m.getModifiers())) {
                return m;
            }
        }
        throw new IllegalStateException(name);
    }

    private int pick(int n) {
        return random.nextInt(n);
    }

    // ---- texts

    private int wells;
    private int letters = 4;
    /** Whether wells know little and the run asks what it takes to know the goal. */
    private boolean hard;

    private String day() {
        return "" + (pick(3) == 0 ? pick(365) : pick(25));
    }

    private String span() {
        int from = pick(3) == 0 ? pick(365) : pick(20);
        return from + " " + Math.min(364, from + (pick(4) == 0 ? pick(365) : pick(12)));
    }

    private String word(int n) {
        List<Character> all = new ArrayList<>();
        for (int i = 0; i < n; i++) {
            all.add((char) ('a' + i));
        }
        java.util.Collections.shuffle(all, random);
        StringBuilder sb = new StringBuilder();
        int many = 1 + pick(n);
        for (int i = 0; i < many; i++) {
            sb.append(all.get(i));
        }
        return sb.toString();
    }

    private String countryText() {
        StringBuilder sb = new StringBuilder();
        letters = 4;
        if (pick(3) > 0) {
            letters = 1 + pick(4);
            sb.append("atoms ").append(letters).append(";");
        }
        int places = 1 + pick(pick(3) == 0 ? 8 : 4);
        for (int i = 0; i < places; i++) {
            sb.append("place;");
        }
        for (int i = 1; i < places; i++) {
            if (pick(6) > 0) {
                sb.append("road ").append(i).append(" ").append(pick(i)).append(" ").append(1 + pick(9)).append(";");
            }
        }
        if (places > 2) {
            int a = pick(places);
            sb.append("road ").append(a).append(" ").append((a + 1) % places).append(" ").append(1 + pick(4)).append(";");
        }
        wells = hard ? 3 + pick(4) : pick(10) == 0 ? 0 : 1 + pick(pick(3) == 0 ? 6 : 4);
        for (int i = 0; i < wells; i++) {
            String known = word(letters);
            sb.append("well ").append(pick(places)).append(" ").append(hard ? known.substring(0, 1) : known).append(";");
        }
        for (int i = 0; i < wells; i++) {
            int each = 1 + pick(pick(2) == 0 ? 30 : 4);
            if (pick(2) == 0) {
                sb.append("lies ").append(pick(wells)).append(" ").append(each).append(" ").append(pick(each)).append(";");
            }
            if (pick(3) == 0) {
                sb.append("dry ").append(pick(wells)).append(" ").append(span()).append(";");
            }
        }
        for (int i = pick(3); i > 0 && wells > 1; i--) {
            int k = pick(wells);
            int j = (k + 1 + pick(wells - 1)) % wells;
            sb.append("vein ").append(k).append(" ").append(j).append(" ").append(pick(2) == 0 ? "0 364" : span()).append(";");
        }
        if (pick(4) == 0) {
            sb.append("frost ").append(span()).append(";");
        }
        if (pick(2) == 0) {
            sb.append("is ").append(pick(1 << letters)).append(";");
        }
        return sb.toString();
    }

    private String phrase(int open, int size) {
        int kind = open >= 6 || size <= 0 ? 0 : pick(9);
        switch (kind) {
            case 1:
                return "not " + phrase(open + 1, size - 1);
            case 2:
                return "[" + phrase(open + 1, size - 1) + " or " + phrase(open + 1, size / 2) + "]";
            case 3:
                return "if " + phrase(open + 1, size / 2) + " then " + phrase(open + 1, size / 2);
            case 4:
            case 5:
                return wells == 0 ? "a" : "says " + pick(wells) + " " + phrase(open + 1, size - 1);
            case 6:
                return "[" + phrase(open + 1, size - 1) + " and " + phrase(open + 1, size / 2) + "]";
            default:
                return "" + (char) ('a' + pick(letters));
        }
    }

    private String simple() {
        String letter = (pick(4) == 0 ? "not " : "") + (char) ('a' + pick(letters));
        return pick(6) == 0 && wells > 0 ? "says " + pick(wells) + " " + letter : letter;
    }

    /** A goal that takes several askings. */
    private String puzzle() {
        StringBuilder sb = new StringBuilder(simple());
        for (int i = pick(3); i > 0; i--) {
            sb.append(pick(2) == 0 ? " or " : " and ").append(simple());
        }
        return sb.toString();
    }

    private String phraseText() {
        if (hard && pick(3) > 0) {
            return puzzle();
        }
        StringBuilder sb = new StringBuilder(phrase(0, 1 + pick(4)));
        while (pick(3) == 0) {
            sb.append(pick(2) == 0 ? " or " : " and ").append(phrase(0, 1 + pick(3)));
        }
        return sb.toString();
    }

    /** A clause or an opening too many, so that the rarer faults come up. */
    private String overdone(String name, String text) {
        if (!name.equals("country")) {
            String opening = new String[] {"not ", "[", "if a then ", "says 0 ", "says 9 ", "if [a] then not "}[pick(6)];
            return opening.repeat(1 + pick(7)) + text;
        }
        String clause = new String[] {"atoms 2;", "place;", "well 0 a;", "vein 0 1 0 9;", "is 63;", "is 16;", "is 5;", "is 2;",
            "road 0 1 3;", "frost 1 2;", "lies 0 2 1;", "dry 0 0 0;", "foo;", " ;", "place ;"}[pick(15)];
        int at = pick(2) == 0 ? text.length() : text.indexOf(';', pick(text.length())) + 1;
        String more = clause.repeat(pick(2) == 0 ? 1 : 1 + pick(61));
        return text.substring(0, at) + more + text.substring(at);
    }

    /** Some bytes changed, so that faults of all kinds come up. */
    private String spoilt(String text) {
        StringBuilder sb = new StringBuilder(text);
        for (int i = 1 + pick(2); i > 0; i--) {
            String bits = "abcdefpo0123456789 ;[];;  not if says or and place;well 0 a;is 3;atoms 2;vein 0 1 2 3;\u00e9\u0000A";
            int at = pick(sb.length() + 1);
            int from = pick(bits.length());
            switch (pick(4)) {
                case 0:
                    sb.insert(at, bits.substring(from, Math.min(bits.length(), from + 1 + pick(8))));
                    break;
                case 1:
                    sb.delete(at, Math.min(sb.length(), at + 1 + pick(6)));
                    break;
                case 2:
                    if (at < sb.length()) {
                        sb.setCharAt(at, bits.charAt(from));
                    }
                    break;
                default:
                    sb.setLength(at);
            }
        }
        return sb.toString();
    }

    private String spread(String text) {
        StringBuilder sb = new StringBuilder();
        for (char c : text.toCharArray()) {
            sb.append(c);
            if ((c == ' ' || c == ';' || c == '[' || c == ']') && pick(5) == 0) {
                sb.append(" ".repeat(1 + pick(3)));
            }
        }
        return sb.toString();
    }

    private boolean send(String name, int slot, String plain) throws ReflectiveOperationException {
        String text = pick(6) == 0 ? spread(plain) : plain;
        int change = pick(10);
        text = change == 0 ? overdone(name, text) : change == 1 ? spoilt(text) : text;
        int most = name.equals("country") ? 600 : 150;
        if (text.length() > most) {
            text = text.substring(0, most);
        }
        // what stands on the tape goes with a text that can't be read; 0 bytes are always there
        if (fast.count(1) > 0 && !same(method("goal"), 0)) {
            return false;
        }
        for (int i = 0; i < text.length(); i += 20) {
            Object[] five = new Object[5];
            for (int k = 0; k < 5; k++) {
                int number = 0;
                for (int b = 0; b < 4; b++) {
                    int at = i + 4 * k + b;
                    number = number << 8 | (at < text.length() ? text.charAt(at) : pick(256));
                }
                five[k] = number;
            }
            if (!same(method("feed"), five)) {
                return false;
            }
        }
        told.add(name + " of: " + text);
        boolean fine = slot < 0 ? same(method(name), text.length()) : same(method(name), slot, text.length());
        return fine && same(method("fault"));
    }

    // ---- calls

    private int around(int n) {
        return pick(30) == 0 ? (pick(2) == 0 ? -1 : n) : pick(30) == 0 ? random.nextInt() : pick(Math.max(n, 1));
    }

    private Object[] arguments(Method m) {
        int w = around(fast.told(2));
        int q = around(6);
        int d = pick(4) == 0 ? around(365) : around(25);
        int place = around(fast.told(1));
        int state = around(fast.told(4));
        switch (m.getName()) {
            case "told":
                return new Object[] {around(8)};
            case "well":
                return new Object[] {w, around(6)};
            case "far":
                return new Object[] {place, around(fast.told(1))};
            case "lies":
                return new Object[] {w, d, state};
            case "silent":
            case "trick":
            case "yes":
            case "waits":
                return new Object[] {w, d};
            case "states":
                return new Object[] {q, d};
            case "knows":
            case "parting":
                return new Object[] {w, q};
            case "says":
                return new Object[] {w, q, d, state};
            case "ask":
                return new Object[] {w, q, d};
            case "known":
            case "atoms":
            case "spare":
            case "learned":
                return new Object[] {d};
            case "vein":
                return new Object[] {around(fast.told(3))};
            case "diary":
                return new Object[] {around(fast.told(6)), around(4)};
            case "tear":
                return new Object[] {pick(4) == 0 ? around(fast.told(6) + 2) : Math.max(0, fast.told(6) - 1)};
            case "hear":
                return new Object[] {w, q, d, around(3)};
            case "hearsay":
                return new Object[] {around(2)};
            case "parts":
            case "enough":
            case "cant":
            case "odds":
                return new Object[] {d, around(2)};
            case "plan":
                return new Object[] {place, pick(6) == 0 ? 350 + pick(15) : d, around(2)};
            case "alike":
                return new Object[] {q, around(6), d};
            case "riders":
                return new Object[] {place, 1 + around(3), around(1 << fast.told(2))};
            case "offer":
                return new Object[] {around(6), w, pick(2) == 0 ? around(100) : pick(6)};
            case "shared":
                return new Object[] {around(6), d};
            case "sold":
                return new Object[] {d, around(7)};
            case "marks":
                return new Object[] {pick(2) == 0 ? 1 + around(256) : 1 + around(30), around(4)};
            case "code":
                return new Object[] {1 + around(8), around(4), pick(3) == 0 ? around(256) : around(10)};
            case "year":
                return new Object[] {w, random.nextInt(), around(17)};
            case "drought":
                return new Object[] {random.nextInt(), around(17)};
            case "be":
                return new Object[] {state};
            case "tour":
                return new Object[] {place, around(1 << fast.told(2))};
            case "lying":
                return new Object[] {w, around(2)};
            case "agree":
                return new Object[] {w, around(fast.told(2)), q};
            case "status":
            case "count":
                return new Object[] {around(3)};
            default:
                return new Object[0];
        }
    }

    private static final List<String> HARD = Arrays.asList("parts", "enough", "trick", "cant", "atoms", "spare", "plan", "ask",
            "tear", "odds", "known", "be", "question", "goal", "shared", "sold", "offer", "brief", "hear", "trusted", "riders");

    private boolean call(Method m) throws ReflectiveOperationException {
        switch (m.getName()) {
            case "feed":
                return true;
            case "country":
                return pick(6) > 0 || (pick(3) > 0 ? send("country", -1, countryText()) : same(m, around(650)));
            case "question":
                return pick(4) == 0 ? same(m, around(7), around(160)) : send("question", pick(6), phraseText());
            case "goal":
                return pick(4) == 0 ? same(m, around(160)) : send("goal", -1, phraseText());
            case "tear":
                return pick(4) > 0 || (hard ? same(m, pick(2)) : same(m, arguments(m)));
            case "deaf":
            case "restore":
                return pick(4) > 0 || same(m, arguments(m));
            case "be":
                // a diary that no state fits tells little
                return pick(4) > 0 || same(m, arguments(m)) && (!hard || same(method("tear"), 0));
            case "ask":
            case "hear":
            case "offer":
                return same(m, arguments(m)) && same(m, arguments(m)) && same(method("left"));
            case "plan":
                // the slow one needs long, where there are many wells
                return fast.told(2) > 3 && pick(8) > 0 || same(m, arguments(m));
            default:
                return same(m, arguments(m));
        }
    }

    private boolean play(List<Method> face) throws ReflectiveOperationException {
        hard = run % 2 == 0;
        boolean fine = send("country", -1, countryText());
        for (int q = 0; q < 6 && fine; q++) {
            fine = pick(4) == 0 || send("question", q, hard ? simple() : phraseText());
        }
        fine = fine && (pick(8) == 0 || send("goal", -1, phraseText()));
        while (fine && told.size() < CALLS) {
            Method m = face.get(pick(face.size()));
            fine = hard && pick(5) > 0 && !HARD.contains(m.getName()) || call(m);
        }
        return fine && same(method("status"), 0) && same(method("status"), 1);
    }

    public static void main(String[] args) throws ReflectiveOperationException {
        List<Method> face = new ArrayList<>();
        for (Method m : BitWells.class.getDeclaredMethods()) {
            if (Modifier.isPublic(m.getModifiers())) {
                face.add(m);
            }
        }
        face.sort(Comparator.comparing(Method::getName));
        int from = args.length > 0 ? Integer.parseInt(args[0]) : 0;
        int runs = args.length > 1 ? Integer.parseInt(args[1]) : RUNS;
        for (int run = from; run < from + runs && wrong < 5; run++) {
            new RandomRunsTest(run).play(face);
        }
        System.out.println(answered + " random calls (" + refused + " refused), " + wrong + " answers are not as due");
        if (wrong != 0) {
            System.exit(1);
        }
    }
}
