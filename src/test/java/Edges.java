import java.nio.file.Path;
import java.util.HashSet;
import java.util.Set;

/** What the tests of edges share: each begins by naming its promise and quoting the words of the document that it holds the class to. */
final class Edges {
    private static final int PROMISES = 34;

    private final Due due = new Due();
    private final Document document;
    private final Set<Integer> named = new HashSet<>();
    private int tests = 0;
    private int answers = 1;

    Edges(Document document) {
        this.document = document;
    }

    static Edges open() throws Exception {
        return new Edges(Document.read(Path.of(System.getProperty("document", "../shared/DOC.md"))));
    }

    void of(int promise, String words) {
        endOne();
        due.promise(promise, words);
        named.add(promise);
        tests++;
        answers = 0;
        if (!document.says(promise, words)) {
            due.is("words that the document has", 0, 1);
        }
    }

    /** A test that looks at no answer is none. */
    private void endOne() {
        if (answers == 0) {
            due.is("answers that are looked at", 0, 1);
        }
    }

    void is(String call, long got, long want) {
        answers++;
        due.is(call, got, want);
    }

    void all(String call, long want, long... got) {
        answers++;
        due.all(call, want, got);
    }

    void row(String call, long[] got, long... want) {
        answers++;
        due.row(call, got, want);
    }

    static long[] r(long... answers) {
        return answers;
    }

    /** All four limits, as rule() tells them. */
    static long[] limits(OddPayments x) {
        return r(x.rule(0), x.rule(1), x.rule(2), x.rule(3));
    }

    static long[] told(OddPayments x, int tag) {
        return r(x.told(tag, 0), x.told(tag, 1), x.told(tag, 2), x.told(tag, 3), x.told(tag, 4), x.told(tag, 5), x.told(tag, 6));
    }

    static void lay(OddPayments x, int sheet, int at, int... items) {
        for (int i = 0; i < items.length; i++) {
            x.set(sheet, at + i, items[i]);
        }
    }

    void end() {
        endOne();
        due.promise(0, "the tests");
        for (int promise = 1; promise <= PROMISES; promise++) {
            due.is("promise " + promise + " is named by a test", named.contains(promise) ? 1 : 0, 1);
        }
        for (String clause : document.untested()) {
            due.is("no test quotes " + clause, 0, 1);
        }
        due.end();
        System.out.println(tests + " edges of " + named.size() + " promises");
    }
}
