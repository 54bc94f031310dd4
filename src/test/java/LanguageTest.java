import java.nio.file.Files;
import java.nio.file.Path;
import java.util.List;
import java.util.Map;
import java.util.Set;
import java.util.TreeMap;
import java.util.TreeSet;
import java.util.regex.Matcher;
import java.util.regex.Pattern;

/** The rules of LANGUAGE.md that can be seen from the program's text. */
public final class LanguageTest {
    private static final List<String> FORBIDDEN = List.of("\\bthrow\\b", "\\bthrows\\b", "\\btry\\b", "\\bcatch\\b", "\\bsynchronized\\b", "\\bassert\\b",
            "->", "::", "\\bpackage\\b", "\\bprotected\\b", "Exact\\b", "\\bhashCode\\b", "\\btoString\\b", "\\bObject\\b", "\\bthread\\b", "\\bThread\\b",
            "\\bRandom\\b", "\\bnanoTime\\b", "\\bcurrentTimeMillis\\b", "\\bdouble\\b", "\\bfloat\\b", "\\bstatic \\{", "\\bvar\\b", "\\[\\]\\[\\]\\[\\]",
            "\" *\\+", "\\+ *\"");
    private static final int LONGEST_METHOD = 60, MOST_CALLS = 8;
    private static boolean right = true;

    private static void wrong(int line, String what) {
        right = false;
        System.out.println("line " + (line + 1) + ": " + what);
    }

    private static String codeOf(String text) {
        String plain = Pattern.compile("/\\*.*?\\*/", Pattern.DOTALL).matcher(text).replaceAll(m -> m.group().replaceAll("[^\n]", ""));
        return plain.replaceAll("//[^\n]*", "");
    }

    private static void words(String[] lines) {
        for (int i = 0; i < lines.length; i++) {
            for (String f : FORBIDDEN) {
                Matcher m = Pattern.compile(f).matcher(lines[i]);
                if (m.find()) {
                    wrong(i, "'" + m.group() + "'");
                }
            }
            if (lines[i].startsWith("import ") && !lines[i].equals("import java.util.Arrays;")) {
                wrong(i, lines[i]);
            }
        }
    }

    /** The program is laid out by four, so that a method's end stands below its beginning. */
    private static void lengths(String[] lines) {
        for (int i = 0; i < lines.length; i++) {
            Matcher m = Pattern.compile("( +)[^(=;]+\\([^;]*\\) \\{").matcher(lines[i]);
            if (!m.matches() || m.group(1).length() > 8) {
                continue;
            }
            int end = i;
            while (end < lines.length && !lines[end].equals(m.group(1) + "}")) {
                end++;
            }
            if (end - i + 1 > LONGEST_METHOD) {
                wrong(i, "a method of " + (end - i + 1) + " lines");
            }
        }
    }

    /** Of each method's name those that its bodies call; methods of one name are taken as one, which can only add calls. */
    private static Map<String, Set<String>> callsOf(String[] lines) {
        Map<String, Set<String>> calls = new TreeMap<>();
        String in = null;
        String end = "";
        for (String line : lines) {
            Matcher head = Pattern.compile("( {4}(?: {4})?)(?:[\\w\\[\\]]+ )*(\\w+)\\([^;]*\\) \\{").matcher(line);
            if (head.matches()) {
                in = head.group(2);
                end = head.group(1) + "}";
                calls.putIfAbsent(in, new TreeSet<>());
                continue;
            }
            if (line.equals(end)) {
                in = null;
            }
            Matcher call = Pattern.compile("(\\w+)\\(").matcher(line);
            while (in != null && call.find()) {
                calls.get(in).add(call.group(1));
            }
        }
        return calls;
    }

    private static int depth(Map<String, Set<String>> calls, String method, int open) {
        int deepest = open;
        for (String called : calls.getOrDefault(method, Set.of())) {
            if (!called.equals(method) && calls.containsKey(called) && open < 40) {
                deepest = Math.max(deepest, depth(calls, called, open + 1));
            }
        }
        return deepest;
    }

    private static void depths(String[] lines) {
        Map<String, Set<String>> calls = callsOf(lines);
        int deepest = 0;
        for (String method : calls.keySet()) {
            int depth = depth(calls, method, 1);
            deepest = Math.max(deepest, depth);
            if (depth > MOST_CALLS) {
                wrong(0, method + " calls " + depth + " deep");
            }
        }
        if (deepest < 4) {
            wrong(0, "calls only " + deepest + " deep: the methods were not understood");
        }
    }

    private static void signs(String text) {
        for (int i = 0; i < text.length(); i++) {
            if (text.charAt(i) > 126 || text.charAt(i) < 32 && text.charAt(i) != '\n') {
                wrong(text.substring(0, i).split("\n", -1).length - 1, "sign " + (int) text.charAt(i));
            }
        }
    }

    public static void main(String[] args) throws Exception {
        String text = Files.readString(Path.of(System.getProperty("source", "src/main/java/OddPayments.java")));
        signs(text);
        String[] lines = codeOf(text).split("\n", -1);
        words(lines);
        lengths(lines);
        depths(lines);
        if (!right) {
            System.exit(1);
        }
    }
}
