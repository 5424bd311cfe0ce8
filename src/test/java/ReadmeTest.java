import java.io.IOException;
import java.lang.reflect.InvocationTargetException;
import java.lang.reflect.Method;
import java.lang.reflect.Modifier;
import java.nio.file.Files;
import java.nio.file.Path;
import java.util.ArrayList;
import java.util.Collections;
import java.util.HashMap;
import java.util.List;
import java.util.Map;
import java.util.regex.Matcher;
import java.util.regex.Pattern;

/** Plays the calls that README.md shows as an example, and looks whether each answers what README.md says beside it. */
public final class ReadmeTest {
    private static final Pattern MADE = Pattern.compile("BitWells (\\w+) = new BitWells\\(\\);");
    private static final Pattern CALL = Pattern.compile("(\\w+)\\.(\\w+)\\(([^)]*)\\); +// (throws \\w+|true|false|-?\\d+)(: .*)?");
    private static final int FEWEST_CALLS = 40;

    private static int wrong = 0;

    private static void want(boolean fine, String what) {
        if (!fine) {
            wrong++;
            System.out.println(what);
        }
    }

    /** The lines of all Java blocks, without those that are empty or hold a comment alone. */
    private static List<String> example(List<String> readme) {
        List<String> lines = new ArrayList<>();
        boolean inside = false;
        for (String line : readme) {
            String text = line.trim();
            if (text.startsWith("```")) {
                inside = text.equals("```java");
            } else if (inside && !text.isEmpty() && !text.startsWith("//")) {
                lines.add(text);
            }
        }
        return lines;
    }

    private static Method method(String name) {
        for (Method m : BitWells.class.getDeclaredMethods()) {
            if (m.getName().equals(name) && Modifier.isPublic(m.getModifiers())) {
                return m;
            }
        }
        return null;
    }

    private static Object[] numbers(String arguments) {
        String[] parts = arguments.isBlank() ? new String[0] : arguments.split(", *");
        Object[] numbers = new Object[parts.length];
        for (int i = 0; i < parts.length; i++) {
            boolean hex = parts[i].startsWith("0x");
            numbers[i] = hex ? (Object) Integer.parseUnsignedInt(parts[i].substring(2), 16) : (Object) Integer.valueOf(parts[i]);
        }
        return numbers;
    }

    private static String answer(BitWells x, Method m, Object[] arguments) throws IllegalAccessException {
        try {
            return String.valueOf(m.invoke(x, arguments));
        } catch (InvocationTargetException e) {
            return "throws " + e.getCause().getClass().getSimpleName();
        }
    }

    private static void call(Matcher line, Map<String, BitWells> made) throws IllegalAccessException {
        BitWells x = made.get(line.group(1));
        Method m = method(line.group(2));
        Object[] arguments = numbers(line.group(3));
        if (x == null || m == null || m.getParameterCount() != arguments.length) {
            want(false, "no such call: " + line.group());
            return;
        }
        String found = answer(x, m, arguments);
        want(found.equals(line.group(4)), line.group() + "\n  answers " + found);
    }

    private static int play(List<String> lines) throws IllegalAccessException {
        Map<String, BitWells> made = new HashMap<>();
        int calls = 0;
        for (String text : lines) {
            Matcher fresh = MADE.matcher(text);
            Matcher line = CALL.matcher(text);
            if (fresh.matches()) {
                made.put(fresh.group(1), new BitWells());
            } else if (line.matches()) {
                calls++;
                call(line, made);
            } else {
                want(false, "no call with an answer: " + text);
            }
        }
        return calls;
    }

    /** So that no call is forgotten in the table of all calls, and none stands there that is none. */
    private static void table(List<String> readme) {
        List<String> told = new ArrayList<>();
        for (String line : readme) {
            if (line.startsWith("|")) {
                Matcher name = Pattern.compile("`(\\w+)`").matcher(line);
                while (name.find()) {
                    told.add(name.group(1));
                    want(method(name.group(1)) != null, "the table tells of " + name.group(1) + ", which is no call");
                }
            }
        }
        for (Method m : BitWells.class.getDeclaredMethods()) {
            if (Modifier.isPublic(m.getModifiers())) {
                int times = Collections.frequency(told, m.getName());
                want(times == 1, "the table tells " + times + " times of " + m.getName());
            }
        }
    }

    public static void main(String[] args) throws IOException, IllegalAccessException {
        List<String> readme = Files.readAllLines(Path.of("README.md"));
        int calls = play(example(readme));
        want(calls >= FEWEST_CALLS, "the example has " + calls + " calls, fewer than " + FEWEST_CALLS);
        table(readme);
        System.out.println("ReadmeTest: " + calls + " calls, " + wrong + " wrong");
        if (wrong > 0) {
            System.exit(1);
        }
    }
}
