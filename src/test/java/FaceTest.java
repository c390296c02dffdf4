import java.io.IOException;
import java.lang.reflect.Constructor;
import java.lang.reflect.Field;
import java.lang.reflect.Method;
import java.lang.reflect.Modifier;
import java.nio.file.Files;
import java.nio.file.Path;
import java.util.ArrayList;
import java.util.Arrays;
import java.util.List;
import java.util.Set;
import java.util.TreeSet;
import java.util.regex.Matcher;
import java.util.regex.Pattern;

/** The public face of ../shared/DOC.md, and that there is no other. */
public final class FaceTest {
    private static final String FACE =
        "wells(int) way(int,int,int) ofWay(int,int) stop(int,int) rain(int) call(int,int,int) "
        + "ofSaying(int,int) change(int,int,int) become(int,int) as(int,int) folk(int,int) "
        + "ofFolk(int,int) drink(int,int,int) feed(long,int) text(int) law(int,int,int,int) "
        + "hours(int) loose(int) then(int,int) learns(int,int) calls(int,int,int,int) "
        + "stops(int,int,int) who(int,int) loud(int,int,int,int) alike(int) furthest(int,int) "
        + "odds(int,int,int,int) seed(int) voice(int,int,int) trace(int) sheet(int,int,int) "
        + "put(int,int,int) move(int,int,int,int,int) palates(int) judge(int) image() restore() "
        + "tell(int) check() count(int) told(int)";

    private FaceTest() {
    }

    public static void main(String[] args) throws IOException {
        String document = Files.readString(Path.of("../shared/DOC.md"));
        String source = Files.readString(Path.of("src/main/java/WellTold.java"));
        theFaceIsTheDocuments(document);
        theCallsStandAsInTheDocument(document, source);
        nothingElseIsSeen();
        Checks.end("FaceTest");
    }

    private static String signature(Method m) {
        StringBuilder s = new StringBuilder(m.getName()).append('(');
        for (int i = 0; i < m.getParameterCount(); i++) {
            s.append(i == 0 ? "" : ",").append(m.getParameterTypes()[i].getName());
        }
        return s.append(')').toString();
    }

    private static void theFaceIsTheDocuments(String document) {
        Set<String> due = new TreeSet<>(Arrays.asList(FACE.split(" ")));
        Set<String> told = new TreeSet<>();
        Matcher call = Pattern.compile("^    public int (\\w+)\\((.*)\\);$", Pattern.MULTILINE).matcher(document);
        while (call.find()) {
            told.add(call.group(1) + "(" + call.group(2).replaceAll(" \\w+(, |$)", ",").replaceAll(",$", "") + ")");
        }
        Checks.dueTrue("the document's face is " + told + ", due is " + due, told.equals(due));
        Set<String> seen = new TreeSet<>();
        for (Method m : WellTold.class.getDeclaredMethods()) {
            if (Modifier.isPublic(m.getModifiers())) {
                seen.add(signature(m));
                Checks.dueTrue(m + " answers an int", m.getReturnType() == int.class);
                Checks.dueTrue(m + " is no static method", !Modifier.isStatic(m.getModifiers()));
            }
        }
        Checks.dueTrue("face is " + seen + ", due is " + due, seen.equals(due));
        Checks.dueTrue("the class is public", Modifier.isPublic(WellTold.class.getModifiers()));
        Checks.dueTrue("the class is final", Modifier.isFinal(WellTold.class.getModifiers()));
        Constructor<?>[] made = WellTold.class.getDeclaredConstructors();
        Checks.due("constructors", made.length, 1);
        Checks.dueTrue("the constructor is public", Modifier.isPublic(made[0].getModifiers()));
        Checks.due("the constructor's parameters", made[0].getParameterCount(), 0);
    }

    /** In the document's order, by the names of their parameters, each group behind the row ahead of it. */
    private static void theCallsStandAsInTheDocument(String document, String source) {
        List<String> due = new ArrayList<>();
        Matcher face = Pattern.compile("^    (public int \\w+\\(.*\\));$", Pattern.MULTILINE).matcher(document);
        while (face.find()) {
            due.add(face.group(1));
        }
        Matcher group = Pattern.compile("^Ahead of the calls `(\\w+)`.* the interface says: (---- .*)\\.$",
            Pattern.MULTILINE).matcher(document);
        int groups = 0;
        while (group.find()) {
            int at = 0;
            while (at < due.size() && !due.get(at).startsWith("public int " + group.group(1) + "(")) {
                at++;
            }
            due.add(at, group.group(2));
            groups++;
        }
        Checks.due("groups of calls in the document", groups, 5);
        List<String> seen = new ArrayList<>();
        Matcher row = Pattern.compile("^    (?:// (---- .*)|(public int \\w+\\(.*\\)) \\{)$", Pattern.MULTILINE)
            .matcher(source);
        while (row.find()) {
            seen.add(row.group(1) != null ? row.group(1) : row.group(2));
        }
        // The last row is that of what the calls share, which no call of the face stands behind.
        Checks.due("rows of the source", seen.size(), due.size() + 1);
        for (int i = 0; i < due.size() && i < seen.size(); i++) {
            Checks.dueTrue("the source says " + seen.get(i) + ", due is " + due.get(i), seen.get(i).equals(due.get(i)));
        }
    }

    private static void nothingElseIsSeen() {
        Set<String> names = new TreeSet<>();
        for (Method m : WellTold.class.getDeclaredMethods()) {
            if (Modifier.isPublic(m.getModifiers())) {
                names.add(m.getName());
            }
        }
        for (Method m : WellTold.class.getDeclaredMethods()) {
            boolean ours = Modifier.isPublic(m.getModifiers()) || m.isSynthetic();
            Checks.dueTrue(m + " is public or private", ours || Modifier.isPrivate(m.getModifiers()));
            Checks.dueTrue(m + " bears no public name", ours || !names.contains(m.getName()));
        }
        for (Field f : WellTold.class.getDeclaredFields()) {
            Checks.dueTrue(f + " is private", Modifier.isPrivate(f.getModifiers()));
        }
        for (Class<?> inside : WellTold.class.getDeclaredClasses()) {
            for (Method m : inside.getDeclaredMethods()) {
                Checks.dueTrue(m + " bears no public name", !names.contains(m.getName()));
            }
        }
    }
}
