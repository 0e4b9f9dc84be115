import java.io.IOException;
import java.io.UncheckedIOException;
import java.nio.file.Files;
import java.nio.file.Path;
import java.util.LinkedHashMap;
import java.util.Map;
import java.util.regex.Matcher;
import java.util.regex.Pattern;

/**
 * The sentences of ../shared/DOC.md: a test quotes each one ahead of its checks; a quote that the
 * document does not have, one without checks, and words of the document that none quotes are wrong.
 */
final class Document {
    private static final String WHAT_IT_IS = "What it is";
    private static final Map<String, String> TEXTS = new LinkedHashMap<>();
    private static final Map<String, boolean[]> QUOTED = new LinkedHashMap<>();
    private static String section = "";
    private static String quote = "";
    private static int checksBefore;

    private Document() {
    }

    static void open() {
        String all = read().replaceAll("\\s+", " ");
        String terms = between(all, "## Terms ", "## Promise 1:").replace("```text", "").replace("```", "");
        Matcher term = Pattern.compile("(?<= )(VII|VI|V|IV|III|II|I)\\. (.*?)(?= (?:II|III|IV|V|VI|VII)\\. |$)")
            .matcher(" " + terms.replaceAll("\\s+", " ").trim());
        while (term.find()) {
            add("Terms " + term.group(1), term.group(2));
        }
        Matcher promise = Pattern.compile("## Promise (\\d+): \\w[^`]*`[^`]*`: (.*?)(?= ## )").matcher(all);
        while (promise.find()) {
            add("Promise " + promise.group(1), promise.group(2));
        }
        if (TEXTS.size() != 68) {
            Checks.fail("the document has " + TEXTS.size() + " terms and promises: " + TEXTS.keySet());
        }
        add(WHAT_IT_IS, between(all, "## What it is ", "## The public face"));
    }

    private static String read() {
        try {
            return Files.readString(Path.of("../shared/DOC.md"));
        } catch (IOException e) {
            throw new UncheckedIOException(e);
        }
    }

    private static String between(String all, String from, String to) {
        int start = all.indexOf(from) + from.length();
        return all.substring(start, all.indexOf(to, start));
    }

    private static void add(String name, String text) {
        TEXTS.put(name, text.trim());
        QUOTED.put(name, new boolean[text.trim().length()]);
    }

    static void promise(int number) {
        section("Promise " + number);
    }

    static void term(String number) {
        section("Terms " + number);
    }

    static void section(String name) {
        section = name;
    }

    /** The checks that follow are of these words of the term or promise that is open. */
    static void says(String words) {
        closeQuote();
        quote = words;
        Checks.about(section + ", '" + words + "'");
        String text = TEXTS.getOrDefault(section, "");
        int at = text.indexOf(words);
        if (at < 0) {
            Checks.fail("the document does not say that there");
        }
        for (int i = at; at >= 0 && i < at + words.length(); i++) {
            QUOTED.get(section)[i] = true;
        }
    }

    private static void closeQuote() {
        if (!quote.isEmpty() && Checks.made() == checksBefore) {
            Checks.fail("quoted without a check");
        }
        checksBefore = Checks.made();
    }

    static void close() {
        closeQuote();
        for (Map.Entry<String, String> entry : TEXTS.entrySet()) {
            StringBuilder left = new StringBuilder();
            for (int i = 0; i < entry.getValue().length(); i++) {
                left.append(QUOTED.get(entry.getKey())[i] ? ' ' : entry.getValue().charAt(i));
            }
            // What it is tells again, in short, what the promises say.
            if (!entry.getKey().equals(WHAT_IT_IS) && !left.toString().isBlank()) {
                Checks.about(entry.getKey());
                Checks.fail("no test quotes '" + left.toString().trim() + "'");
            }
        }
    }
}
