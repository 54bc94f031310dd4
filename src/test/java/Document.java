import java.io.IOException;
import java.nio.file.Files;
import java.nio.file.Path;
import java.util.ArrayList;
import java.util.List;
import java.util.TreeMap;
import java.util.regex.Matcher;
import java.util.regex.Pattern;

/** The document's text: a test quotes the words whose edge it tries, and no clause of a promise is left without a test. */
final class Document {
    private static final int TERMS = 0;

    private final TreeMap<Integer, String> texts = new TreeMap<>();
    private String beginning = "";
    private final List<String> quotes = new ArrayList<>();

    static Document read(Path path) throws IOException {
        Document d = new Document();
        if (!Files.isReadable(path)) {
            System.out.println("no document at " + path + ": the words that tests quote are not looked up");
            return d;
        }
        for (String part : Files.readString(path).split("(?m)^## ")) {
            Matcher promise = Pattern.compile("Promise (\\d+):.*").matcher(part.lines().findFirst().orElse(""));
            if (promise.matches()) {
                d.texts.put(Integer.valueOf(promise.group(1)), plain(part.replaceFirst("(?s).*?`: ", "")));
            } else if (part.startsWith("What it is")) {
                d.beginning = plain(part);
            } else if (part.startsWith("Terms")) {
                d.texts.put(TERMS, plain(part.substring(5).split("Ahead of the calls")[0].replace("```text", "").replace("```", "")));
            }
        }
        return d;
    }

    private static String plain(String text) {
        return text.replaceAll("\\s+", " ").trim();
    }

    private static List<String> clauses(String text) {
        List<String> all = new ArrayList<>();
        for (String clause : text.split("(?<=[^.])[.;](?= |$) *")) {
            if (!clause.isBlank()) {
                all.add(clause.trim());
            }
        }
        return all;
    }

    /** The words stand in the promise itself, in the terms that it rests on, or where the document begins. */
    boolean says(int promise, String words) {
        if (texts.isEmpty()) {
            return true;
        }
        boolean own = texts.getOrDefault(promise, "").contains(words);
        if (own || texts.getOrDefault(TERMS, "").contains(words)) {
            quotes.add((own ? promise : TERMS) + " " + words);
            return true;
        }
        return beginning.contains(words);
    }

    List<String> untested() {
        List<String> left = new ArrayList<>();
        texts.forEach((number, text) -> {
            for (String clause : clauses(text)) {
                if (quotes.stream().noneMatch(q -> q.startsWith(number + " ") && overlap(q.substring(q.indexOf(' ') + 1), clause))) {
                    left.add((number == TERMS ? "terms" : "promise " + number) + ": " + clause);
                }
            }
        });
        return left;
    }

    private static boolean overlap(String words, String clause) {
        return clause.contains(words) || words.contains(clause);
    }
}
