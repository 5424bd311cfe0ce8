import java.io.IOException;
import java.lang.management.ManagementFactory;
import java.lang.reflect.Constructor;
import java.lang.reflect.Field;
import java.lang.reflect.Method;
import java.lang.reflect.Modifier;
import java.nio.file.Files;
import java.nio.file.Path;
import java.util.ArrayList;
import java.util.Arrays;
import java.util.List;
import java.util.Set;
import java.util.TreeSet;
import java.util.regex.Matcher;
import java.util.regex.Pattern;

/** The face as the document writes it, the rules of LANGUAGE.md that can be seen from outside, and the room a run takes. */
public final class RulesTest {
    private static int wrong = 0;

    private static void want(boolean fine, String what) {
        if (!fine) {
            wrong++;
            System.out.println(what);
        }
    }

    /** "int feed(int, int) throws X", so that the document and the class can be compared as texts. */
    private static String shape(Method m) {
        List<String> types = new ArrayList<>();
        for (Class<?> c : m.getParameterTypes()) {
            types.add(c.getSimpleName());
        }
        List<String> thrown = new ArrayList<>();
        for (Class<?> c : m.getExceptionTypes()) {
            thrown.add(c.getSimpleName());
        }
        return m.getReturnType().getSimpleName() + " " + m.getName() + types + thrown;
    }

    private static Set<String> documentFace() throws IOException {
        Set<String> face = new TreeSet<>();
        Pattern line = Pattern.compile("^    public (int|long|boolean) (\\w+)\\(([^)]*)\\)( throws ([\\w, ]+))?;$", Pattern.MULTILINE);
        Matcher m = line.matcher(Files.readString(Path.of("../shared/DOC.md")));
        while (m.find()) {
            List<String> types = new ArrayList<>();
            for (String part : m.group(3).split(", ")) {
                if (!part.isEmpty()) {
                    types.add(part.split(" ")[0]);
                }
            }
            List<String> thrown = m.group(5) == null ? new ArrayList<>() : Arrays.asList(m.group(5).split(", "));
            face.add(m.group(1) + " " + m.group(2) + types + thrown);
        }
        return face;
    }

    private static void face() throws IOException {
        Set<String> document = documentFace();
        want(document.size() == 55, "the document has " + document.size() + " methods, not 55");
        Set<String> found = new TreeSet<>();
        Set<String> names = new TreeSet<>();
        for (Method m : BitWells.class.getDeclaredMethods()) {
            if (!Modifier.isPrivate(m.getModifiers())) {
                found.add(shape(m));
                names.add(m.getName());
                want(Modifier.isPublic(m.getModifiers()) && !Modifier.isStatic(m.getModifiers()), m + " is not of the face");
            }
        }
        want(found.equals(document), "the face is\n" + found + "\nnot\n" + document);
        want(Modifier.isFinal(BitWells.class.getModifiers()), "the class is not final");
        for (Field f : BitWells.class.getDeclaredFields()) {
            want(Modifier.isPrivate(f.getModifiers()) || f.getName().equals("NONE"), f + " is seen");
            want(!Modifier.isStatic(f.getModifiers()) || Modifier.isFinal(f.getModifiers()), f + " is static, not final");
        }
        for (Constructor<?> c : BitWells.class.getDeclaredConstructors()) {
            want(Modifier.isPublic(c.getModifiers()) && c.getParameterCount() == 0, c + " is not of the face");
        }
        inside(BitWells.class, names, true);
        Class<?>[] classes = BitWells.class.getDeclaredClasses();
        want(classes.length <= 12, "too many classes");
        for (Class<?> c : classes) {
            want(Modifier.isStatic(c.getModifiers()), c + " is not static");
            inside(c, names, false);
        }
    }

    private static void inside(Class<?> c, Set<String> names, boolean outer) {
        int fields = 0;
        for (Field f : c.getDeclaredFields()) {
            fields += Modifier.isStatic(f.getModifiers()) ? 0 : 1;
        }
        want(fields <= 20, c + " has " + fields + " fields");
        for (Method m : c.getDeclaredMethods()) {
            want(m.getParameterCount() <= 7, m + " takes too much");
            want(outer && Modifier.isPublic(m.getModifiers()) || !names.contains(m.getName()), m + " bears a name of the face");
        }
    }

    private static void source() throws IOException {
        String text = Files.readString(Path.of("src/main/java/BitWells.java"));
        String code = text.replaceAll("(?s)/\\*.*?\\*/", "").replaceAll("//[^\n]*", "");
        for (String word : new String[] {"try", "catch", "finally", "assert", "synchronized", "package", "System\\.out", "Random",
            "currentTimeMillis", "nanoTime", "double", "float", "String\\[", "Object", "Exact\\(", "->", "::", "static \\{"}) {
            want(!Pattern.compile(Character.isLetter(word.charAt(0)) ? "\\b" + word : word).matcher(code).find(), word + " is used");
        }
        Matcher imports = Pattern.compile("import ([\\w.]+);").matcher(code);
        while (imports.find()) {
            want(imports.group(1).equals("java.util.Arrays") || imports.group(1).equals("java.util.NoSuchElementException"),
                    imports.group(1) + " is imported");
        }
        Matcher library = Pattern.compile("\\b(Arrays|System|Math|Integer|Long)\\.(\\w+)").matcher(code);
        while (library.find()) {
            want(Arrays.asList("copyOf", "fill", "arraycopy", "min", "max", "bitCount", "numberOfTrailingZeros", "compare")
                    .contains(library.group(2)), library.group() + " is used");
        }
        for (int i = 0; i < text.length(); i++) {
            want(text.charAt(i) < 128, "a sign past 127 at " + i);
        }
        lengths(text);
    }

    private static void lengths(String text) {
        int from = 0;
        String head = "";
        String[] lines = text.split("\n");
        for (int i = 0; i < lines.length; i++) {
            if (lines[i].matches(" {4}( {4})?[\\w].*\\{") && !lines[i].contains(" class ") || lines[i].endsWith("Exception {")) {
                from = i;
                head = lines[i].trim();
            }
            if (lines[i].matches(" {4}( {4})?\\}")) {
                want(i - from <= 60 || lines[i].equals("    }") && lines[from].startsWith("        "), head + " has " + (i - from) + " lines");
            }
        }
    }

    /** A run of 512 calls that keep most must leave the room wide: 7.3 million elements are at least 8 million bytes. */
    private static void room() {
        com.sun.management.ThreadMXBean bean = (com.sun.management.ThreadMXBean) ManagementFactory.getThreadMXBean();
        long id = Thread.currentThread().getId();
        use(20);
        long before = bean.getThreadAllocatedBytes(id);
        use(512);
        long taken = bean.getThreadAllocatedBytes(id) - before;
        want(taken < 1_000_000, "512 calls take " + taken + " bytes");
    }

    private static void use(int calls) {
        BitWells x = new BitWells();
        for (int i = 0; i + 10 < calls; i += 10) {
            x.feed(0x6174_6F6D, 0x7320_343B, 0x706C_6163, 0x653B_7765, 0x6C6C_2030);
            x.feed(0x2061_623B, 0x7765_6C6C, 0x2030_2063, 0x643B_2020, 0x2020_2020);
            x.country(36);
            x.feed(0x6120_6F72, 0x2062_2061, 0x6E64_2063, 0x2020_2020, 0x2020_2020);
            x.question(0, 20);
            x.feed(0x6120_6F72, 0x2064_2020, 0x2020_2020, 0x2020_2020, 0x2020_2020);
            x.goal(20);
            x.image();
            x.plan(0, 0, 0);
            x.enough(0, 1);
        }
    }

    public static void main(String[] args) throws IOException {
        face();
        source();
        room();
        System.out.println(wrong + " rules are broken");
        if (wrong != 0) {
            System.exit(1);
        }
    }
}
