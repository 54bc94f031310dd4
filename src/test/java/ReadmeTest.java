import java.lang.reflect.Method;
import java.nio.file.Files;
import java.nio.file.Path;
import java.util.ArrayList;
import java.util.List;
import java.util.Set;
import java.util.TreeSet;
import java.util.regex.Matcher;
import java.util.regex.Pattern;

/** The calls that README.md shows answer what it says, so that nobody learns a wrong use from it. */
public final class ReadmeTest {
    private static final Pattern CALL = Pattern.compile("x\\.(\\w+)\\(([^)]*)\\); +// (-?\\d+)(:.*)?");
    private static final Pattern TEXT = Pattern.compile("feed\\(x, \"([^\"]*)\"\\);");
    private static final int FEWEST = 50;

    private final Set<String> shown = new TreeSet<>();
    private int calls = 0;
    private int wrong = 0;

    private void wrong(String what) {
        wrong++;
        System.out.println("README.md: " + what);
    }

    private static Method named(String name) {
        for (Method m : OddPayments.class.getMethods()) {
            if (m.getDeclaringClass() == OddPayments.class && m.getName().equals(name)) {
                return m;
            }
        }
        return null;
    }

    private static Object[] numbers(String list) {
        List<Object> numbers = new ArrayList<>();
        for (String n : list.isBlank() ? new String[0] : list.split(", ")) {
            numbers.add(Integer.valueOf(n));
        }
        return numbers.toArray();
    }

    private void call(OddPayments x, Matcher told) throws Exception {
        Method m = named(told.group(1));
        if (m == null) {
            wrong("no such call: " + told.group());
            return;
        }
        long got = ((Number) m.invoke(x, numbers(told.group(2)))).longValue();
        if (got != Long.parseLong(told.group(3))) {
            wrong(told.group() + " answered " + got);
        }
        shown.add(m.getName());
        calls++;
    }

    // README.md shows this helper as it stands here.
    static void feed(OddPayments x, String text) {
        for (int i = 0; i < text.length(); i += 8) {
            int end = Math.min(i + 8, text.length());
            long bytes = 0;
            for (int k = i; k < end; k++) {
                bytes = bytes << 8 | text.charAt(k);
            }
            x.feed(bytes, end - i);
        }
    }

    private void helper(String readme) throws Exception {
        Matcher block = Pattern.compile("```java\n(static void feed.*?\n}\n)```", Pattern.DOTALL).matcher(readme);
        String own = Files.readString(Path.of("src/test/java/ReadmeTest.java"));
        if (!block.find() || !own.contains(block.group(1).replaceAll("(?m)^(?=.)", "    "))) {
            wrong("the helper is not the one that is tried here");
        }
    }

    private void follow(String[] lines) throws Exception {
        OddPayments x = null;
        for (String line : lines) {
            Matcher call = CALL.matcher(line);
            Matcher text = TEXT.matcher(line);
            if (line.equals("OddPayments x = new OddPayments();")) {
                x = new OddPayments();
            } else if (text.matches()) {
                feed(x, text.group(1));
            } else if (call.matches()) {
                call(x, call);
            } else if (!line.isBlank() && !line.startsWith("//")) {
                wrong("not understood: " + line);
            }
        }
    }

    public static void main(String[] args) throws Exception {
        ReadmeTest test = new ReadmeTest();
        String readme = Files.readString(Path.of("README.md"));
        test.helper(readme);
        Matcher block = Pattern.compile("```java\n(OddPayments x.*?)```", Pattern.DOTALL).matcher(readme);
        while (block.find()) {
            test.follow(block.group(1).split("\n"));
        }
        test.shown.add("feed");
        for (Method m : OddPayments.class.getMethods()) {
            if (m.getDeclaringClass() == OddPayments.class && !test.shown.contains(m.getName())) {
                test.wrong("does not show " + m.getName());
            }
        }
        if (test.calls < FEWEST) {
            test.wrong("shows only " + test.calls + " calls");
        }
        System.out.println(test.calls + " calls as README.md shows them");
        System.exit(test.wrong > 0 ? 1 : 0);
    }
}
