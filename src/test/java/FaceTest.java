import java.lang.reflect.Constructor;
import java.lang.reflect.Field;
import java.lang.reflect.Method;
import java.lang.reflect.Modifier;
import java.nio.file.Files;
import java.nio.file.Path;
import java.util.HashSet;
import java.util.Set;
import java.util.TreeSet;
import java.util.regex.Matcher;
import java.util.regex.Pattern;

/** The public face, by reflection: all of the document's, and nothing beside it. Run from the project's folder. */
public final class FaceTest {
    private static final String[] METHODS = {
        "int write(int)", "int erase()", "int fault()", "int read()", "int add(int)", "int remove(int)", "int undo()",
        "int keep(int)", "int back(int)", "int has(int)", "int near(int,int)", "int rank(int)", "int ranked(int)",
        "int search(int,int)", "int bucket(int,int)", "int level(int)", "int marks(int,int)", "int under(int,int,int)",
        "int sweep(int,int,int)", "int flood(int,int,int,int)", "int dearest(int)", "int mean(int)", "int spread(int,int)",
        "int row(int,int)", "int set(int,int,int)", "int work(int,int,int,int)", "int bits(int,int)", "int sum(int)",
        "int load(int,int)", "int drop(int)", "long asked()", "int count(int)"};
    private static final Due due = new Due("FaceTest");

    public static void main(String[] args) throws Exception {
        Class<?> face = PrefixIndex.class;
        due.holds("public and final", face.getModifiers() == (Modifier.PUBLIC | Modifier.FINAL));
        document();
        constants();
        methods(face);
        constructors(face);
        for (Class<?> inner : face.getDeclaredClasses()) {
            inner(inner);
        }
        due.holds("twelve classes at most", face.getDeclaredClasses().length < 12);
        due.end();
    }

    /** The document's own lines, so that this test's lists and the class's words for what is given are the document's. */
    private static void document() throws Exception {
        String document = Files.readString(Path.of("../shared/DOC.md"));
        String source = Files.readString(Path.of("src/main/java/PrefixIndex.java"));
        Set<String> told = new TreeSet<>();
        Matcher m = Pattern.compile("(?m)^    public ((?:int|long) \\w+\\(.*?\\));$").matcher(document);
        while (m.find()) {
            told.add(m.group(1).replaceAll("int \\w+(?=[,)])", "int").replace(", ", ","));
            due.holds("the class has " + m.group(1), source.contains("\n    public " + m.group(1) + " {\n"));
        }
        due.holds("the document's methods are " + told, told.equals(new TreeSet<>(Set.of(METHODS))));
        Matcher constants = Pattern.compile("(?m)^    public static final int (.*);$").matcher(document);
        due.holds("the document tells constants", constants.find());
        String[] all = constants.group(1).split(", ");
        due.is("constants", all.length, 9);
        for (String constant : all) {
            String[] sides = constant.split(" = ");
            due.is(sides[0], PrefixIndex.class.getField(sides[0]).getInt(null), Integer.parseInt(sides[1]));
        }
        due.holds("the class's line is the document's", source.contains("\n" + constants.group() + "\n"));
        due.holds("the document tells the constructor", document.contains("\n    public PrefixIndex();\n"));
    }

    private static void constants() throws Exception {
        String[] names = {"NONE", "UNKNOWN", "OUTSIDE", "NOT", "FULL", "NULL", "INDEX", "SIZE", "OVER"};
        int[] values = {-1, -2, -3, -4, -5, -11, -12, -13, -14};
        Set<String> seen = new HashSet<>();
        for (Field f : PrefixIndex.class.getDeclaredFields()) {
            if (!Modifier.isPrivate(f.getModifiers())) {
                seen.add(f.getName());
            }
        }
        due.is("fields that are not private", seen.size(), names.length);
        for (int i = 0; i < names.length; i++) {
            Field f = PrefixIndex.class.getField(names[i]);
            due.is(names[i], f.getInt(null), values[i]);
            due.holds(names[i] + " is a constant int", f.getType() == int.class && Modifier.isFinal(f.getModifiers()));
        }
        fields(PrefixIndex.class);
    }

    private static void methods(Class<?> face) {
        Set<String> want = new TreeSet<>(Set.of(METHODS));
        Set<String> open = new TreeSet<>();
        for (Method m : face.getDeclaredMethods()) {
            if (!Modifier.isPrivate(m.getModifiers())) {
                open.add(signature(m));
                due.holds(m + " is public, not static", m.getModifiers() == Modifier.PUBLIC);
            }
        }
        due.holds("methods are " + want + " but found " + open, want.equals(open));
        privateNames(face);
    }

    private static String signature(Method m) {
        StringBuilder s = new StringBuilder(m.getReturnType().getName()).append(' ').append(m.getName()).append('(');
        for (int i = 0; i < m.getParameterCount(); i++) {
            s.append(i == 0 ? "" : ",").append(m.getParameterTypes()[i].getName());
        }
        return s.append(')').toString();
    }

    private static void constructors(Class<?> face) {
        Constructor<?>[] all = face.getDeclaredConstructors();
        due.is("constructors", all.length, 1);
        due.holds("public, without arguments", all[0].getModifiers() == Modifier.PUBLIC && all[0].getParameterCount() == 0);
    }

    private static void privateNames(Class<?> owner) {
        Set<String> names = new HashSet<>();
        for (String m : METHODS) {
            names.add(m.substring(m.indexOf(' ') + 1, m.indexOf('(')));
        }
        for (Method m : owner.getDeclaredMethods()) {
            if (owner != PrefixIndex.class || Modifier.isPrivate(m.getModifiers())) {
                due.holds(m + " bears no public one's name", !names.contains(m.getName()));
            }
            due.holds(m + " takes seven at most", m.getParameterCount() <= 7);
        }
    }

    private static void fields(Class<?> owner) {
        int own = 0;
        for (Field f : owner.getDeclaredFields()) {
            if (Modifier.isStatic(f.getModifiers())) {
                due.holds(f + " is final", Modifier.isFinal(f.getModifiers()));
                due.holds(f + " is a constant of int", f.getType() == int.class);
            } else {
                own++;
            }
        }
        due.holds(owner + " has twenty fields at most", own <= 20);
    }

    private static void inner(Class<?> inner) {
        int m = inner.getModifiers();
        due.holds(inner + " is static", Modifier.isStatic(m));
        due.holds(inner + " is not open", !Modifier.isPublic(m) && !Modifier.isProtected(m));
        due.is(inner + " has no class inside", inner.getDeclaredClasses().length, 0);
        fields(inner);
        privateNames(inner);
    }
}
