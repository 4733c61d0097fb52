import java.lang.reflect.Constructor;
import java.lang.reflect.Field;
import java.lang.reflect.Method;
import java.lang.reflect.Modifier;
import java.nio.file.Files;
import java.nio.file.Path;
import java.util.List;
import java.util.Set;
import java.util.TreeSet;
import java.util.regex.Matcher;
import java.util.regex.Pattern;

/** The document's face and nothing more; promise 1; and what LANGUAGE.md rules out, as far as words show it. */
public final class FaceTest {
    private static final String[] FACE = {
        "int row(int,int)", "int lay(int,int,int)", "int at(int,int)", "int tear(int)",
        "int copy(int,int,int,int,int)", "int mean(int)", "int text(int,int)", "int put(int,int,int)",
        "int fault(int)", "int river(int)", "int reach(int,int)", "int mark(int,int)",
        "int weekday(int,int)", "int swap(int,int)", "int owns(int)", "int day(int)", "int undo(int)",
        "int keep(int)", "int on(int)", "int gates()", "int runs(int)", "int sea(int)",
        "int water(int,int)", "int share(int,int)", "int grinds(int)", "int best(int,int)",
        "int all(int,int)", "int most(int,int)", "int worth(int)", "int duel(int)", "int ways(int)",
        "int first(int,int)", "int kinds(int,int)", "int measures(int,int)", "int mid(int,int)",
        "int odds(int,int,int)", "int lots(int,int)", "int asked()", "long upper()", "long lower()",
        "int count(int)", "int finding()", "int findings(int)", "long digest()",
    };

    private static final Set<String> NAMES = Twins.names();
    private static final Set<Class<?>> CONSTANTS = Set.of(int.class, long.class, boolean.class, char.class,
        String.class, int[].class, long[].class, char[].class, byte[].class);

    public static void main(String[] args) throws Exception {
        constants();
        documentsFace();
        members();
        nestedClasses();
        fieldsOf(RiverDays.class);
        newObject();
        source();
        methodsAreShort();
        Check.end("FaceTest");
    }

    private static void constants() {
        Check.due("BAD", RiverDays.BAD, -1);
        Check.due("FULL", RiverDays.FULL, -2);
        Check.due("FINDING", RiverDays.FINDING, -3);
        Check.due("STATE", RiverDays.STATE, -4);
        Check.due("SPENT", RiverDays.SPENT, -6);
        Check.due("NONE", RiverDays.NONE, -9);
    }

    /** The face as the document itself has it, so that no line of it is left out above. */
    private static void documentsFace() throws Exception {
        String doc = Files.readString(Path.of("../shared/DOC.md"));
        Matcher block = Pattern.compile("(?s)```java\\npublic final class RiverDays \\{(.*?)\\n\\}\\n```").matcher(doc);
        Check.isTrue("the document has a face", block.find());
        Matcher method = Pattern.compile("public (int|long) (\\w+)\\(([^)]*)\\);").matcher(block.group(1));
        Set<String> due = new TreeSet<>();
        while (method.find()) {
            String types = method.group(3).replaceAll("(int|long) \\w+", "$1").replace(" ", "");
            due.add(method.group(1) + " " + method.group(2) + "(" + types + ")");
        }
        Check.isTrue("the document's face is " + due, due.equals(new TreeSet<>(Set.of(FACE))));
        Matcher constant = Pattern.compile("([A-Z]+) = (-?\\d+)").matcher(block.group(1));
        int constants = 0;
        while (constant.find()) {
            Field f = RiverDays.class.getField(constant.group(1));
            Check.due(constant.group(1), f.getInt(null), Integer.parseInt(constant.group(2)));
            constants++;
        }
        Check.due("constants of the document", constants, 6);
    }

    private static void members() {
        Set<String> due = new TreeSet<>(Set.of(FACE));
        Set<String> names = new TreeSet<>();
        Set<String> found = new TreeSet<>();
        for (Method m : RiverDays.class.getDeclaredMethods()) {
            if (Modifier.isPublic(m.getModifiers())) {
                found.add(signature(m));
                names.add(m.getName());
            } else {
                Check.isTrue(m.getName() + " is private", Modifier.isPrivate(m.getModifiers()));
            }
        }
        Check.isTrue("face " + due + " but is " + found, due.equals(found));
        for (Method m : RiverDays.class.getDeclaredMethods()) {
            boolean hidden = Modifier.isPrivate(m.getModifiers());
            Check.isTrue(m.getName() + " is named as a public one", !(hidden && names.contains(m.getName())));
            Check.isTrue(m.getName() + " has too many parameters", m.getParameterCount() <= 7);
        }
        Constructor<?>[] made = RiverDays.class.getDeclaredConstructors();
        Check.due("constructors", made.length, 1);
        Check.isTrue("public constructor", Modifier.isPublic(made[0].getModifiers()));
        Check.isTrue("public final class", Modifier.isPublic(RiverDays.class.getModifiers())
            && Modifier.isFinal(RiverDays.class.getModifiers()));
        Set<String> shown = new TreeSet<>();
        for (Field f : RiverDays.class.getDeclaredFields()) {
            if (!Modifier.isPrivate(f.getModifiers())) {
                shown.add(f.getName());
            }
        }
        Check.isTrue("fields " + shown, shown.equals(Set.of("BAD", "FULL", "FINDING", "STATE", "SPENT", "NONE")));
    }

    private static String signature(Method m) {
        StringBuilder s = new StringBuilder();
        s.append(m.getReturnType().getName()).append(' ').append(m.getName()).append('(');
        for (int i = 0; i < m.getParameterCount(); i++) {
            s.append(i == 0 ? "" : ",").append(m.getParameterTypes()[i].getName());
        }
        return s.append(')').toString();
    }

    private static void nestedClasses() {
        Class<?>[] inside = RiverDays.class.getDeclaredClasses();
        Check.isTrue("some twelve classes", inside.length + 1 <= 12);
        for (Class<?> c : inside) {
            Check.isTrue(c + " is static", Modifier.isStatic(c.getModifiers()));
            Check.isTrue(c + " is hidden", !Modifier.isPublic(c.getModifiers())
                && !Modifier.isProtected(c.getModifiers()));
            fieldsOf(c);
            for (Method m : c.getDeclaredMethods()) {
                Check.isTrue(m + " is named as a call", !NAMES.contains(m.getName()));
                Check.isTrue(m + " has too many parameters", m.getParameterCount() <= 7);
            }
        }
    }

    private static void fieldsOf(Class<?> c) {
        int own = 0;
        for (Field f : c.getDeclaredFields()) {
            boolean isStatic = Modifier.isStatic(f.getModifiers());
            Check.isTrue(f + " is a constant", !isStatic || Modifier.isFinal(f.getModifiers()));
            Check.isTrue(f + " may be static", !isStatic || CONSTANTS.contains(f.getType()));
            own += isStatic ? 0 : 1;
        }
        Check.isTrue(c + " has some twenty fields", own <= 20);
    }

    private static void newObject() {
        RiverDays x = new RiverDays();
        for (int what = 0; what <= 10; what++) {
            Check.due("new count " + what, x.count(what), 0);
        }
        Check.due("new asked", x.asked(), 0);
        Make.fraction("new", x, 0, 1);
        Check.due("new finding", x.finding(), 0);
        for (int f = 1; f <= 5; f++) {
            Check.due("new findings", x.findings(f), 0);
        }
        for (int v = 0; v < 7; v++) {
            Check.due("new owns", x.owns(v), 0);
        }
        Check.due("new gates", x.gates(), 0);
        Check.due("new reach", x.reach(0, 0), RiverDays.BAD);
        for (int r = 0; r < 6; r++) {
            Check.finds("new row", x, x.tear(r), 1);
        }
        for (int t = 0; t < 4; t++) {
            Check.finds("new text", x, x.fault(t), 1);
        }
        for (int k = 0; k < 3; k++) {
            Check.finds("new kept river", x, x.on(k), 1);
        }
        Check.due("nothing is shared", new RiverDays().finding(), 0);
    }

    private static void source() throws Exception {
        String text = Files.readString(Path.of("src/main/java/RiverDays.java"));
        String code = text.replaceAll("(?s)/\\*.*?\\*/", "").replaceAll("//[^\n]*", "");
        String[] ruledOut = {"throw", "throws", "try", "catch", "synchronized", "assert", "import", "package",
            "equals", "hashCode", "toString", "protected", "random", "Thread", "nanoTime", "volatile"};
        for (String word : ruledOut) {
            Matcher m = Pattern.compile("\\b" + word + "\\b").matcher(code);
            Check.isTrue("the source has " + word, !m.find());
        }
        Check.isTrue("the source has a lambda or a method reference", !code.contains("->") && !code.contains("::"));
        Check.isTrue("the source has a function named ..Exact", !code.contains("Exact("));
        Check.isTrue("signs", text.chars().allMatch(c -> c == '\n' || c >= 32 && c < 127));
    }

    /** A method of the outer class is indented by four, one of a class inside by eight. */
    private static void methodsAreShort() throws Exception {
        List<String> lines = Files.readAllLines(Path.of("src/main/java/RiverDays.java"));
        int methods = 0;
        for (int from = 0; from < lines.size(); from++) {
            Matcher head = Pattern.compile("( {4}| {8})[A-Za-z].*\\) \\{").matcher(lines.get(from));
            if (head.matches()) {
                int size = lines.subList(from, lines.size()).indexOf(head.group(1) + "}") + 1;
                Check.isTrue(lines.get(from) + " has " + size + " lines", size > 0 && size <= 60);
                methods++;
            }
        }
        Check.isTrue("methods are found", methods > FACE.length);
    }
}
