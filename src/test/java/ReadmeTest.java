import java.lang.reflect.Field;
import java.lang.reflect.Modifier;
import java.net.URL;
import java.net.URLClassLoader;
import java.nio.file.Files;
import java.nio.file.Path;
import java.util.ArrayList;
import java.util.List;
import java.util.Set;
import java.util.TreeSet;
import java.util.regex.Matcher;
import java.util.regex.Pattern;
import java.util.stream.Stream;
import javax.tools.ToolProvider;

/** What README.md shows answers as it says, and it leaves out no call, constant or test. Run from the project's folder. */
public final class ReadmeTest {
    private static final Pattern BLOCK = Pattern.compile("(?s)```java\n(.*?)```");
    /** A call that is shown with its answer, such as "index.add(40);  // 1: so many keys there are". */
    private static final Pattern SHOWN = Pattern.compile("(index\\.\\w+\\(.*?\\));\\s*// (-?\\d+|[A-Z]+)(?:: .*)?");
    private static final Due due = new Due("ReadmeTest");

    public static void main(String[] args) throws Exception {
        String page = Files.readString(Path.of("README.md"));
        examples(page);
        calls(page);
        constants(page);
        faults(page);
        tests(page);
        due.end();
    }

    private static void examples(String page) throws Exception {
        Matcher blocks = BLOCK.matcher(page);
        int many = 0;
        while (blocks.find()) {
            many++;
            due.part("example " + many);
            for (Object[] row : answers(program(blocks.group(1), many), many)) {
                due.is((String) row[0], (Long) row[1], (Long) row[2]);
            }
        }
        due.part("examples");
        due.holds("there are four at least", many >= 4);
    }

    /** The block as a class; each call that is shown with an answer gives a row of the call, its answer and the answer shown. */
    private static String program(String block, int number) {
        StringBuilder code = new StringBuilder("public final class Example" + number + " {\n"
            + "public static java.util.List<Object[]> rows() {\njava.util.List<Object[]> rows = new java.util.ArrayList<>();\n");
        for (String line : block.split("\n")) {
            Matcher m = SHOWN.matcher(line);
            if (m.matches()) {
                String want = m.group(2).matches("[A-Z]+") ? "PrefixIndex." + m.group(2) : m.group(2);
                code.append("rows.add(new Object[] {\"").append(m.group(1)).append("\", (long) ").append(m.group(1)).append(", (long) ")
                    .append("(").append(want).append(")});\n");
            } else {
                due.holds("'" + line + "' shows its answer", !line.startsWith("index."));
                code.append(line).append('\n');
            }
        }
        return code.append("return rows;\n}\n}\n").toString();
    }

    @SuppressWarnings("unchecked")
    private static List<Object[]> answers(String program, int number) throws Exception {
        Path folder = Files.createTempDirectory("readme");
        Path source = folder.resolve("Example" + number + ".java");
        try {
            Files.writeString(source, program);
            int code = ToolProvider.getSystemJavaCompiler().run(null, null, null, "-d", folder.toString(), "-cp",
                System.getProperty("java.class.path"), source.toString());
            due.is("it compiles", code, 0);
            if (code != 0) {
                return List.of();
            }
            try (URLClassLoader loader = new URLClassLoader(new URL[] {folder.toUri().toURL()}, ReadmeTest.class.getClassLoader())) {
                return (List<Object[]>) loader.loadClass("Example" + number).getMethod("rows").invoke(null);
            }
        } finally {
            try (Stream<Path> all = Files.list(folder)) {
                for (Path file : all.toList()) {
                    Files.delete(file);
                }
            }
            Files.delete(folder);
        }
    }

    /** Each call of the document's face stands in a table, with the document's names for what it is given. */
    private static void calls(String page) throws Exception {
        due.part("calls");
        String document = Files.readString(Path.of("../shared/DOC.md"));
        Matcher m = Pattern.compile("(?m)^    public (?:int|long) (\\w+)\\((.*?)\\);$").matcher(document);
        int many = 0;
        while (m.find()) {
            many++;
            String call = m.group(1) + "(" + m.group(2).replace("int ", "") + ")";
            due.holds(call + " is told", Pattern.compile("(?m)^\\|.*`" + Pattern.quote(call) + "`.*\\|.*\\|$").matcher(page).find());
        }
        due.is("calls", many, 32);
    }

    private static void constants(String page) throws Exception {
        due.part("constants");
        int many = 0;
        for (Field f : PrefixIndex.class.getFields()) {
            if (Modifier.isStatic(f.getModifiers())) {
                many++;
                due.holds(f.getName() + " is told with its value", page.contains("\n| `" + f.getName() + "` | " + f.getInt(null) + " | "));
            }
        }
        due.is("constants", many, 9);
    }

    /** The table of texts and their faults. */
    private static void faults(String page) {
        due.part("texts");
        int from = page.indexOf("| text | `fault()` | why |");
        due.holds("there is a table of texts", from >= 0);
        String table = page.substring(Math.max(from, 0)).split("\n\n")[0];
        Matcher m = Pattern.compile("(?m)^\\| `([^`]+)` \\| (NONE|\\d+) \\|").matcher(table);
        int many = 0;
        while (m.find()) {
            many++;
            PrefixIndex index = new PrefixIndex();
            for (char letter : m.group(1).toCharArray()) {
                index.write(letter);
            }
            due.is("fault() of '" + m.group(1) + "'", index.fault(), m.group(2).equals("NONE") ? PrefixIndex.NONE : Integer.parseInt(m.group(2)));
        }
        due.is("texts", many, table.split("\n").length - 2);
    }

    private static void tests(String page) throws Exception {
        due.part("tests");
        Set<String> told = new TreeSet<>();
        Matcher m = Pattern.compile("(?m)^\\| `(\\w+Test)` \\|").matcher(page);
        while (m.find()) {
            told.add(m.group(1));
        }
        List<String> there = new ArrayList<>();
        try (Stream<Path> all = Files.list(Path.of("src/test/java"))) {
            all.map(file -> file.getFileName().toString().replace(".java", "")).filter(name -> name.endsWith("Test")).sorted().forEach(there::add);
        }
        due.holds("tests told are " + told + ", those that are there " + there, there.equals(new ArrayList<>(told)));
    }
}
