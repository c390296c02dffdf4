import java.io.DataInputStream;
import java.io.IOException;
import java.lang.reflect.Field;
import java.lang.reflect.Method;
import java.lang.reflect.Modifier;
import java.nio.file.Files;
import java.nio.file.Path;
import java.util.ArrayList;
import java.util.List;
import java.util.Set;
import java.util.TreeSet;
import java.util.regex.Matcher;
import java.util.regex.Pattern;

/** Those rules of ../shared/LANGUAGE.md that a test can see. */
public final class LanguageTest {
    /** Of rule 4, what the program uses and what lies near it; more may be let in as the rule does. */
    private static final String LIBRARY = "java/lang/Object\\.<init>\\(\\)V"
        + "|java/lang/String\\.(length|charAt|isEmpty|equals|substring|toCharArray)\\(.*"
        + "|java/lang/String\\.indexOf\\(I\\)I"
        + "|java/lang/(Integer|Long|Math)\\.(compare|max|min|abs|bitCount|floorDiv|floorMod)\\([IJ]*\\)[IJ]"
        + "|java/lang/System\\.arraycopy\\(.*"
        + "|java/util/Arrays\\.(copyOf|copyOfRange|fill)\\(.*";

    private static final Set<Class<?>> STATIC_TYPES = Set.of(int.class, long.class, boolean.class, char.class,
        String.class, int[].class, long[].class, char[].class, byte[].class);

    private LanguageTest() {
    }

    public static void main(String[] args) throws IOException {
        classesInsideKeepToTheRules();
        theSourceKeepsToTheRules();
        List<Class<?>> all = new ArrayList<>(List.of(WellTold.class.getDeclaredClasses()));
        all.add(WellTold.class);
        for (Class<?> c : all) {
            staticFieldsKeepToTheRules(c);
            theLibraryKeepsToTheRules(c);
        }
        Checks.end("LanguageTest");
    }

    // ---- rules 2 and 11

    private static void classesInsideKeepToTheRules() {
        Class<?>[] inside = WellTold.class.getDeclaredClasses();
        Checks.dueTrue("some twelve classes at most", inside.length + 1 <= 12);
        for (Class<?> c : inside) {
            Checks.dueTrue(c + " is static", Modifier.isStatic(c.getModifiers()));
            Checks.dueTrue(c + " is not public", !Modifier.isPublic(c.getModifiers()));
            Checks.due(c + " has no classes inside", c.getDeclaredClasses().length, 0);
            int fields = 0;
            for (Field f : c.getDeclaredFields()) {
                fields += Modifier.isStatic(f.getModifiers()) ? 0 : 1;
            }
            Checks.dueTrue(c + " has some twenty fields at most", fields <= 20);
            for (Method m : c.getDeclaredMethods()) {
                Checks.dueTrue(m + " takes seven parameters at most", m.getParameterCount() <= 7);
            }
        }
    }

    // ---- rules 2, 4, 6 and 11, by the rows of the source

    private static void theSourceKeepsToTheRules() throws IOException {
        List<String> lines = Files.readAllLines(Path.of("src/main/java/WellTold.java"));
        Pattern ruledOut = Pattern.compile("\\b(throw|throws|try|catch|finally|synchronized|assert|import|package"
            + "|instanceof|native|volatile|System|Thread|Object|equals|hashCode|toString|Exact)\\b|->|::|Exact\\(");
        int methodStart = -1;
        for (int i = 0; i < lines.size(); i++) {
            String line = lines.get(i);
            String where = "line " + (i + 1) + " (" + line.trim() + ")";
            for (int k = 0; k < line.length(); k++) {
                Checks.dueTrue(where + " holds signs 32 to 126 alone", line.charAt(k) >= 32 && line.charAt(k) <= 126);
            }
            String code = line.trim();
            if (!code.startsWith("*") && !code.startsWith("/*") && !code.startsWith("//")) {
                Matcher m = ruledOut.matcher(code);
                Checks.dueTrue(where + " keeps to LANGUAGE.md", !m.find());
            }
            if (code.endsWith("{") && code.contains("(") && line.matches("^( {4}| {8})\\S.*")
                && !code.matches("(if|for|while|switch|\\}).*")) {
                methodStart = i;
            }
            if (line.matches("^( {4}| {8})\\}") && methodStart >= 0) {
                Checks.dueTrue(where + " ends a method of some sixty lines at most", i - methodStart < 60);
                methodStart = -1;
            }
        }
    }

    // ---- rule 5

    private static void staticFieldsKeepToTheRules(Class<?> c) {
        for (Field f : c.getDeclaredFields()) {
            if (Modifier.isStatic(f.getModifiers())) {
                Checks.dueTrue(f + " is final", Modifier.isFinal(f.getModifiers()));
                Checks.dueTrue(f + " is of a type that rule 5 names", STATIC_TYPES.contains(f.getType()));
            }
        }
    }

    // ---- rules 2, 4 and 13, by what the compiled class refers to

    private static void theLibraryKeepsToTheRules(Class<?> c) throws IOException {
        for (String used : usedBy(c)) {
            boolean own = used.startsWith("WellTold.") || used.startsWith("WellTold$");
            Checks.dueTrue(c + " uses " + used + ", which rule 4 names", own || used.matches(LIBRARY));
        }
    }

    /** All methods and fields that a class refers to, and what it makes by a lambda or by joined texts. */
    private static Set<String> usedBy(Class<?> c) throws IOException {
        try (DataInputStream in = new DataInputStream(c.getResourceAsStream(c.getName() + ".class"))) {
            in.readInt();
            in.readInt();
            int many = in.readUnsignedShort();
            String[] texts = new String[many];
            int[] tags = new int[many];
            int[] firsts = new int[many];
            int[] seconds = new int[many];
            for (int i = 1; i < many; i++) {
                tags[i] = in.readUnsignedByte();
                switch (tags[i]) {
                    case 1 -> texts[i] = in.readUTF();
                    case 3, 4 -> in.readInt();
                    case 5, 6 -> {
                        in.readLong();
                        i++;
                    }
                    case 7, 8, 16, 19, 20 -> firsts[i] = in.readUnsignedShort();
                    case 15 -> {
                        in.readUnsignedByte();
                        in.readUnsignedShort();
                    }
                    default -> {
                        firsts[i] = in.readUnsignedShort();
                        seconds[i] = in.readUnsignedShort();
                    }
                }
            }
            Set<String> used = new TreeSet<>();
            for (int i = 1; i < many; i++) {
                if (tags[i] >= 9 && tags[i] <= 11) {
                    int named = seconds[i];
                    String link = tags[i] == 9 ? ":" : "";
                    used.add(texts[firsts[firsts[i]]] + "." + texts[firsts[named]] + link + texts[seconds[named]]);
                } else if (tags[i] == 15 || tags[i] == 17 || tags[i] == 18) {
                    used.add("something made as the program runs (tag " + tags[i] + ")");
                }
            }
            return used;
        }
    }
}
