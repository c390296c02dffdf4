import java.io.IOException;
import java.lang.reflect.Constructor;
import java.lang.reflect.Field;
import java.lang.reflect.Method;
import java.lang.reflect.Modifier;
import java.nio.file.Files;
import java.nio.file.Path;
import java.util.Arrays;
import java.util.List;
import java.util.Set;
import java.util.TreeSet;
import java.util.regex.Matcher;
import java.util.regex.Pattern;

/** The public face of ../shared/DOC.md, and those rules of ../shared/LANGUAGE.md that a test can see. */
public final class FaceTest {
    private static final String FACE =
        "wells(int) way(int,int,int) ofWay(int,int) stop(int,int) rain(int) call(int,int,int) "
        + "ofSaying(int,int) change(int,int,int) become(int,int) as(int,int) folk(int,int) "
        + "ofFolk(int,int) drink(int,int,int) feed(long,int) text(int) law(int,int,int,int) "
        + "hours(int) loose(int) then(int,int) learns(int,int) calls(int,int,int,int) "
        + "stops(int,int,int) who(int,int) loud(int,int,int,int) alike(int) furthest(int,int) "
        + "odds(int,int,int,int) seed(int) voice(int,int,int) trace(int) sheet(int,int,int) "
        + "put(int,int,int) move(int,int,int,int,int) palates(int) judge(int) image() restore() "
        + "tell(int) check() count(int) told(int)";

    private FaceTest() {
    }

    public static void main(String[] args) throws IOException {
        theFaceIsTheDocuments();
        nothingElseIsSeen();
        classesInsideKeepToTheRules();
        theSourceKeepsToTheRules();
        Checks.end("FaceTest");
    }

    private static String signature(Method m) {
        StringBuilder s = new StringBuilder(m.getName()).append('(');
        for (int i = 0; i < m.getParameterCount(); i++) {
            s.append(i == 0 ? "" : ",").append(m.getParameterTypes()[i].getName());
        }
        return s.append(')').toString();
    }

    private static void theFaceIsTheDocuments() {
        Set<String> due = new TreeSet<>(Arrays.asList(FACE.split(" ")));
        Set<String> seen = new TreeSet<>();
        for (Method m : WellTold.class.getDeclaredMethods()) {
            if (Modifier.isPublic(m.getModifiers())) {
                seen.add(signature(m));
                Checks.dueTrue(m + " answers an int", m.getReturnType() == int.class);
                Checks.dueTrue(m + " is no static method", !Modifier.isStatic(m.getModifiers()));
            }
        }
        Checks.dueTrue("face is " + seen + ", due is " + due, seen.equals(due));
        Checks.dueTrue("the class is public", Modifier.isPublic(WellTold.class.getModifiers()));
        Checks.dueTrue("the class is final", Modifier.isFinal(WellTold.class.getModifiers()));
        Constructor<?>[] made = WellTold.class.getDeclaredConstructors();
        Checks.due("constructors", made.length, 1);
        Checks.dueTrue("the constructor is public", Modifier.isPublic(made[0].getModifiers()));
        Checks.due("the constructor's parameters", made[0].getParameterCount(), 0);
    }

    private static void nothingElseIsSeen() {
        Set<String> names = new TreeSet<>();
        for (Method m : WellTold.class.getDeclaredMethods()) {
            if (Modifier.isPublic(m.getModifiers())) {
                names.add(m.getName());
            }
        }
        for (Method m : WellTold.class.getDeclaredMethods()) {
            boolean ours = Modifier.isPublic(m.getModifiers()) || m.isSynthetic();
            Checks.dueTrue(m + " is public or private", ours || Modifier.isPrivate(m.getModifiers()));
            Checks.dueTrue(m + " bears no public name", ours || !names.contains(m.getName()));
        }
        for (Field f : WellTold.class.getDeclaredFields()) {
            Checks.dueTrue(f + " is private", Modifier.isPrivate(f.getModifiers()));
            boolean isStatic = Modifier.isStatic(f.getModifiers());
            Checks.dueTrue(f + " is final where static", !isStatic || Modifier.isFinal(f.getModifiers()));
        }
        for (Class<?> inside : WellTold.class.getDeclaredClasses()) {
            for (Method m : inside.getDeclaredMethods()) {
                Checks.dueTrue(m + " bears no public name", !names.contains(m.getName()));
            }
        }
    }

    private static void classesInsideKeepToTheRules() {
        Class<?>[] inside = WellTold.class.getDeclaredClasses();
        Checks.dueTrue("some twelve classes at most", inside.length + 1 <= 12);
        for (Class<?> c : inside) {
            Checks.dueTrue(c + " is static", Modifier.isStatic(c.getModifiers()));
            Checks.dueTrue(c + " is not public", !Modifier.isPublic(c.getModifiers()));
            Checks.due(c + " has no classes inside", c.getDeclaredClasses().length, 0);
            int fields = 0;
            for (Field f : c.getDeclaredFields()) {
                boolean isStatic = Modifier.isStatic(f.getModifiers());
                fields += isStatic ? 0 : 1;
                Checks.dueTrue(f + " is final where static", !isStatic || Modifier.isFinal(f.getModifiers()));
            }
            Checks.dueTrue(c + " has some twenty fields at most", fields <= 20);
            for (Method m : c.getDeclaredMethods()) {
                Checks.dueTrue(m + " takes seven parameters at most", m.getParameterCount() <= 7);
            }
        }
    }

    private static void theSourceKeepsToTheRules() throws IOException {
        List<String> lines = Files.readAllLines(Path.of("src/main/java/WellTold.java"));
        Pattern ruledOut = Pattern.compile("\\b(throw|throws|try|catch|finally|synchronized|assert|import|package"
            + "|instanceof|native|volatile|System|Thread|Object|equals|hashCode|toString|Exact)\\b|->|::|Exact\\(");
        int methodStart = -1;
        for (int i = 0; i < lines.size(); i++) {
            String line = lines.get(i);
            String where = "line " + (i + 1) + " (" + line.trim() + ")";
            for (int k = 0; k < line.length(); k++) {
                Checks.dueTrue(where + " holds signs 32 to 126 alone", line.charAt(k) >= 32 && line.charAt(k) <= 126);
            }
            String code = line.trim();
            if (!code.startsWith("*") && !code.startsWith("/*") && !code.startsWith("//")) {
                Matcher m = ruledOut.matcher(code);
                Checks.dueTrue(where + " keeps to LANGUAGE.md", !m.find());
            }
            if (code.endsWith("{") && code.contains("(") && line.matches("^( {4}| {8})\\S.*")
                && !code.matches("(if|for|while|switch|\\}).*")) {
                methodStart = i;
            }
            if (line.matches("^( {4}| {8})\\}") && methodStart >= 0) {
                Checks.dueTrue(where + " ends a method of some sixty lines at most", i - methodStart < 60);
                methodStart = -1;
            }
        }
    }
}
