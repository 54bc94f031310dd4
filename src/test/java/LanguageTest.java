import java.nio.file.Files;
import java.nio.file.Path;
import java.util.List;
import java.util.regex.Matcher;
import java.util.regex.Pattern;

/** The rules of LANGUAGE.md that can be seen from the program's text. */
public final class LanguageTest {
    private static final List<String> FORBIDDEN = List.of("\\bthrow\\b", "\\bthrows\\b", "\\btry\\b", "\\bcatch\\b", "\\bsynchronized\\b", "\\bassert\\b",
            "->", "::", "\\bpackage\\b", "\\bprotected\\b", "Exact\\b", "\\bhashCode\\b", "\\btoString\\b", "\\bObject\\b", "\\bthread\\b", "\\bThread\\b",
            "\\bRandom\\b", "\\bnanoTime\\b", "\\bcurrentTimeMillis\\b", "\\bdouble\\b", "\\bfloat\\b", "\\bstatic \\{", "\\bvar\\b", "\\[\\]\\[\\]\\[\\]",
            "\" *\\+", "\\+ *\"");
    private static final int LONGEST_METHOD = 60;
    private static boolean right = true;

    private static void wrong(int line, String what) {
        right = false;
        System.out.println("line " + (line + 1) + ": " + what);
    }

    private static String codeOf(String text) {
        String plain = Pattern.compile("/\\*.*?\\*/", Pattern.DOTALL).matcher(text).replaceAll(m -> m.group().replaceAll("[^\n]", ""));
        return plain.replaceAll("//[^\n]*", "");
    }

    private static void words(String[] lines) {
        for (int i = 0; i < lines.length; i++) {
            for (String f : FORBIDDEN) {
                Matcher m = Pattern.compile(f).matcher(lines[i]);
                if (m.find()) {
                    wrong(i, "'" + m.group() + "'");
                }
            }
            if (lines[i].startsWith("import ") && !lines[i].equals("import java.util.Arrays;")) {
                wrong(i, lines[i]);
            }
        }
    }

    /** The program is laid out by four, so that a method's end stands below its beginning. */
    private static void lengths(String[] lines) {
        for (int i = 0; i < lines.length; i++) {
            Matcher m = Pattern.compile("( +)[^(=;]+\\([^;]*\\) \\{").matcher(lines[i]);
            if (!m.matches() || m.group(1).length() > 8) {
                continue;
            }
            int end = i;
            while (end < lines.length && !lines[end].equals(m.group(1) + "}")) {
                end++;
            }
            if (end - i + 1 > LONGEST_METHOD) {
                wrong(i, "a method of " + (end - i + 1) + " lines");
            }
        }
    }

    private static void signs(String text) {
        for (int i = 0; i < text.length(); i++) {
            if (text.charAt(i) > 126 || text.charAt(i) < 32 && text.charAt(i) != '\n') {
                wrong(text.substring(0, i).split("\n", -1).length - 1, "sign " + (int) text.charAt(i));
            }
        }
    }

    public static void main(String[] args) throws Exception {
        String text = Files.readString(Path.of(System.getProperty("source", "src/main/java/OddPayments.java")));
        signs(text);
        String[] lines = codeOf(text).split("\n", -1);
        words(lines);
        lengths(lines);
        if (!right) {
            System.exit(1);
        }
    }
}
