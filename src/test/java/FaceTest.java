import java.lang.reflect.Constructor;
import java.lang.reflect.Field;
import java.lang.reflect.Method;
import java.lang.reflect.Modifier;
import java.nio.file.Files;
import java.nio.file.Path;
import java.util.ArrayList;
import java.util.Arrays;
import java.util.List;
import java.util.Set;
import java.util.TreeSet;
import java.util.regex.Matcher;
import java.util.regex.Pattern;

/** The face of the document, and those rules of LANGUAGE.md that can be seen from the class or its text. */
public final class FaceTest {
    private static final String[] FACE = {
        "int feed(long, long, long)", "int hall()", "int evening()", "int seat(int, int)", "int person(int, int)",
        "int lay(int, int)", "int sit(int, int)", "int rise(int)", "int grate(int, int)", "int hour()",
        "boolean undo()", "int judged(int)", "int left(int)", "int later(int, int)", "int first()", "int empties()",
        "int most(int)", "int could(int)", "int needs(int, int, int)", "int keeps(int, int, int)", "int placed(int)",
        "int peace()", "int war()", "int safe()", "boolean see(int, int, boolean)", "int who()", "int ask()",
        "int far(int, int)", "int blocks(int)", "int rich()", "int lone()", "int row(int)", "int stands()",
        "int guards(int)", "int chance(int, int, int)", "int rests(int, int, int, int)",
        "int seasons(int, int, int)", "boolean mark(int, boolean)", "int count(int)"};

    private static final Set<String> IMPORTS = Set.of("java.util.Arrays", "java.util.NoSuchElementException",
        "java.util.ArrayList", "java.util.List", "java.util.Iterator");

    // The rules say some twelve, some twenty, some sixty.
    private static final int SOME_CLASSES = 14;
    private static final int SOME_FIELDS = 22;
    private static final int SOME_LINES = 66;

    private FaceTest() {
    }

    public static void main(String[] args) throws Exception {
        face();
        inside();
        text(Files.readString(Path.of("src/main/java/NutmegSeats.java")));
        Check.end();
    }

    private static void face() throws Exception {
        Class<?> c = NutmegSeats.class;
        Check.due("public and final", Modifier.isPublic(c.getModifiers()) && Modifier.isFinal(c.getModifiers()), true);
        Set<String> open = new TreeSet<>();
        for (Method m : c.getDeclaredMethods()) {
            if (!Modifier.isPrivate(m.getModifiers())) {
                StringBuilder types = new StringBuilder();
                for (Class<?> type : m.getParameterTypes()) {
                    types.append(types.length() == 0 ? "" : ", ").append(type.getName());
                }
                open.add(m.getReturnType() + " " + m.getName() + "(" + types + ")");
                boolean plain = m.getModifiers() == Modifier.PUBLIC;
                Check.due(m + " is public and nothing else", plain, true);
            }
        }
        Set<String> due = new TreeSet<>(Arrays.asList(FACE));
        Check.due("face " + open, open.equals(due), true);
        Class<?>[] thrown = c.getMethod("rests", int.class, int.class, int.class, int.class).getExceptionTypes();
        Check.due("rests throws", thrown.length == 1 && thrown[0] == java.util.NoSuchElementException.class, true);
        List<String> fields = new ArrayList<>();
        for (Field f : c.getDeclaredFields()) {
            if (!Modifier.isPrivate(f.getModifiers())) {
                fields.add(Modifier.toString(f.getModifiers()) + " " + f.getType() + " " + f.getName());
            }
        }
        Check.due("fields " + fields, fields.equals(List.of("public static final int NONE")), true);
        Constructor<?>[] made = c.getDeclaredConstructors();
        Check.due("one constructor", made.length == 1 && made[0].getParameterCount() == 0
            && Modifier.isPublic(made[0].getModifiers()), true);
    }

    private static void inside() {
        Set<String> names = new TreeSet<>();
        for (String method : FACE) {
            names.add(method.replaceAll("^\\w+ (\\w+)\\(.*$", "$1"));
        }
        Class<?>[] inner = NutmegSeats.class.getDeclaredClasses();
        Check.due("some twelve classes", inner.length <= SOME_CLASSES, true);
        List<Class<?>> all = new ArrayList<>(Arrays.asList(inner));
        all.add(NutmegSeats.class);
        for (Class<?> c : all) {
            int fields = 0;
            for (Field f : c.getDeclaredFields()) {
                boolean lasting = Modifier.isStatic(f.getModifiers());
                fields += lasting ? 0 : 1;
                Check.due(f + " is final or an object's", !lasting || Modifier.isFinal(f.getModifiers()), true);
            }
            Check.due("fields of " + c, fields <= SOME_FIELDS, true);
            for (Method m : c.getDeclaredMethods()) {
                Check.due("parameters of " + m, m.getParameterCount() <= 7, true);
                boolean hidden = Modifier.isPrivate(m.getModifiers());
                Check.due("another name than a public one's: " + m, hidden && names.contains(m.getName()), false);
            }
            if (c != NutmegSeats.class) {
                int is = c.getModifiers();
                Check.due(c + " is no part of the face", Modifier.isPublic(is) || Modifier.isProtected(is), false);
            }
        }
    }

    private static void text(String source) {
        Matcher imports = Pattern.compile("import ([^;]*);").matcher(source);
        while (imports.find()) {
            Check.due("import of " + imports.group(1), IMPORTS.contains(imports.group(1)), true);
        }
        String code = source.replaceAll("(?s)/\\*.*?\\*/", "").replaceAll("//.*", "");
        for (String line : code.split("\n")) {
            Check.due("signs of " + line, line.chars().allMatch(sign -> sign < 128), true);
            boolean branch = line.contains("case ") || line.contains("default ");
            Check.due("a lambda: " + line, line.contains("->") && !branch, false);
        }
        for (String bad : new String[] {"package ", "::", "synchronized", "assert ", "finally", "static {", "Exact(",
            "\" +", "+ \"", "while (true", "for (;;", "try (", "getMessage", "toString() {", "hashCode() {", "equals(Object"}) {
            Check.due("the text has " + bad, code.contains(bad), false);
        }
        Matcher library = Pattern.compile("\\b(System|Thread|Runtime|File|Files|Random|Objects|Character|Double|Float)\\.(\\w+)")
            .matcher(code);
        while (library.find()) {
            Check.due("the text has " + library.group(), library.group().equals("System.arraycopy"), true);
        }
        methods(code.split("\n"));
    }

    private static void methods(String[] lines) {
        String head = "";
        StringBuilder body = new StringBuilder();
        int length = 0;
        int heads = 0;
        for (String line : lines) {
            boolean deed = line.trim().matches("(if|for|while|switch|do|try|else)\\b.*");
            if (!deed && line.matches("(    |        )[a-zA-Z].*\\) (throws \\w+ )?\\{")) {
                head = line;
                body.setLength(0);
                length = 0;
                heads++;
            } else if (!head.isEmpty() && line.equals(head.replaceAll("\\S.*$", "}"))) {
                Check.due("lines of " + head.trim(), length <= SOME_LINES, true);
                callsOfItself(head.trim(), body.toString());
                head = "";
            } else {
                body.append(line).append('\n');
                length++;
            }
        }
        Check.due("the methods are found", heads >= FACE.length, true);
    }

    /** Rule 8: a method that calls itself is private and static. */
    private static void callsOfItself(String head, String body) {
        String name = head.replaceAll("^[^(]*?(\\w+)\\(.*$", "$1");
        boolean itself = Pattern.compile("(?<![\\w.])(this\\.)?" + name + "\\(").matcher(body).find();
        Check.due("calls itself: " + head, itself && !head.startsWith("private static "), false);
    }
}
