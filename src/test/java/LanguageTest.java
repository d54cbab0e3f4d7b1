import java.nio.file.Files;
import java.nio.file.Path;
import java.util.ArrayDeque;
import java.util.Deque;
import java.util.HashSet;
import java.util.LinkedHashMap;
import java.util.Map;
import java.util.Set;
import java.util.regex.Matcher;
import java.util.regex.Pattern;

/** The rules of LANGUAGE.md that the source itself can show. Run from the project's folder. */
public final class LanguageTest {
    private static final String[] BANNED = {"import", "package", "throw", "throws", "try", "catch", "finally", "synchronized",
        "assert", "instanceof", "volatile", "transient", "native", "var", "Object", "Random", "Thread", "Exception",
        "hashCode", "toString", "double", "float", "protected"};
    private static final Pattern METHOD =
        Pattern.compile("(?m)^ +(?:public |private |static |final )*[A-Za-z\\[\\]]+ ?[A-Za-z]* *\\b([A-Za-z]+)\\(([^()]*)\\) \\{$");
    private static final Due due = new Due("LanguageTest");

    public static void main(String[] args) throws Exception {
        due.part("src/main/java/PrefixIndex.java");
        String source = Files.readString(Path.of("src/main/java/PrefixIndex.java"));
        for (int i = 0; i < source.length(); i++) {
            due.holds("sign " + i + " is plain", source.charAt(i) == '\n' || source.charAt(i) >= 32 && source.charAt(i) < 127);
        }
        String code = bare(source);
        for (String word : BANNED) {
            due.holds("no " + word, !Pattern.compile("\\b" + word + "\\b").matcher(code).find());
        }
        for (String sign : new String[] {"->", "::", "Exact", "@", "static {", "System.exit", "while (true", "for (;;"}) {
            due.holds("no " + sign, !code.contains(sign));
        }
        library(code);
        methods(code);
        due.end();
    }

    private static String bare(String source) {
        String code = source.replaceAll("(?s)/\\*.*?\\*/", "").replaceAll("//[^\n]*", "");
        return code.replaceAll("\"[^\"]*\"", "\"\"").replaceAll("'[^']'", "' '");
    }

    private static void library(String code) {
        Set<String> allowed = Set.of("Math.min", "Math.max", "Math.abs", "Long.bitCount", "Long.MIN_VALUE", "System.arraycopy");
        Matcher m = Pattern.compile("\\b(Math|Long|Integer|System|Arrays|String|StringBuilder)\\.\\w+").matcher(code);
        while (m.find()) {
            due.holds(m.group() + " is in the library", allowed.contains(m.group()));
        }
    }

    /** Lengths of methods, and how deep calls of one another go (told by names alone, so rather too deep than too little). */
    private static void methods(String code) {
        Map<String, StringBuilder> bodies = new LinkedHashMap<>();
        Matcher m = METHOD.matcher(code);
        while (m.find()) {
            if (m.group().contains(" class ") || m.group(1).equals("if") || m.group(1).equals("for")
                || m.group(1).equals("while") || m.group(1).equals("switch")) {
                continue;
            }
            String body = body(code, m.end() - 1);
            due.holds(m.group(1) + " has sixty lines at most", body.split("\n").length <= 60);
            bodies.computeIfAbsent(m.group(1), n -> new StringBuilder()).append(body);
        }
        due.holds("methods were found", bodies.size() > 80);
        for (String name : bodies.keySet()) {
            int depth = depth(name, bodies, new ArrayDeque<>());
            due.holds(name + " goes eight deep at most, not " + depth, depth <= 8);
        }
    }

    private static String body(String code, int open) {
        int depth = 0;
        for (int i = open; i < code.length(); i++) {
            depth += code.charAt(i) == '{' ? 1 : code.charAt(i) == '}' ? -1 : 0;
            if (depth == 0) {
                return code.substring(open, i + 1);
            }
        }
        return code.substring(open);
    }

    private static int depth(String name, Map<String, StringBuilder> bodies, Deque<String> open) {
        due.holds(name + " does not call itself", !open.contains(name));
        if (open.contains(name)) {
            return 0;
        }
        open.push(name);
        Set<String> callees = new HashSet<>();
        Matcher m = Pattern.compile("\\b([A-Za-z]+)\\(").matcher(bodies.get(name));
        while (m.find()) {
            if (bodies.containsKey(m.group(1))) {
                callees.add(m.group(1));
            }
        }
        int deepest = 0;
        for (String callee : callees) {
            deepest = Math.max(deepest, depth(callee, bodies, open));
        }
        open.pop();
        return deepest + 1;
    }
}
