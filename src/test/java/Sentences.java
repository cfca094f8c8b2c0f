import java.io.IOException;
import java.nio.file.Files;
import java.nio.file.Path;
import java.util.LinkedHashMap;
import java.util.Map;
import java.util.regex.Matcher;
import java.util.regex.Pattern;

/** Sentences of the document. A test claims those that it stands for, so that none is left without a test. */
final class Sentences {
    private static final Path DOC = Path.of("../shared/DOC.md");

    private final Map<String, Boolean> claimed = new LinkedHashMap<>();
    private String last = "";
    private int checksAtLast = 0;

    private Sentences() {
    }

    /** The sentences under "Terms", and the one on how long an object is used. */
    static Sentences ofTerms() throws IOException {
        Sentences all = new Sentences();
        all.add(part("An object is used", "## The public face"));
        for (String paragraph : part("## Terms", "## Promise 1:").split("\n\n")) {
            String[] sentences = paragraph.trim().split("\\. (?=[A-Z])");
            // The first one is the heading.
            for (int i = 1; i < sentences.length; i++) {
                all.add(sentences[i] + (i < sentences.length - 1 ? "." : ""));
            }
        }
        return all;
    }

    /** The lines of the promises on what a call does, takes and returns, each behind the promise's number. */
    static Sentences ofPromises() throws IOException {
        Sentences all = new Sentences();
        all.addPromised(false);
        return all;
    }

    /** The lines of the promises on what a call throws, each behind the promise's number. */
    static Sentences ofExceptions() throws IOException {
        Sentences all = new Sentences();
        all.addPromised(true);
        return all;
    }

    private static String part(String from, String end) throws IOException {
        String doc = Files.readString(DOC);
        int begin = doc.indexOf(from);
        int behind = doc.indexOf(end);
        return begin >= 0 && behind > begin ? doc.substring(begin, behind) : "";
    }

    private void add(String sentence) {
        claimed.put(sentence.trim().replace("`", ""), false);
    }

    private void addPromised(boolean areThrown) throws IOException {
        Matcher promise = Pattern.compile("(?s)## Promise (\\d+): .*?\n(.*?)(?=\n## )")
                .matcher(part("## Promise 1:", "## Not promised") + "\n## ");
        while (promise.find()) {
            for (String line : promise.group(2).trim().split("\n+")) {
                if (line.startsWith("Throws ") == areThrown) {
                    add(promise.group(1) + " " + line.replaceFirst("^`.*?`: ", "").replaceFirst("^- ", ""));
                }
            }
        }
    }

    /** Claims a sentence for the checks that follow. */
    void says(String sentence) {
        needChecks();
        last = sentence;
        Checks.due("the document says: " + sentence, claimed.put(sentence, true), false);
        checksAtLast = Checks.count();
    }

    private void needChecks() {
        if (!last.isEmpty()) {
            Checks.due("checks for: " + last, Checks.count() > checksAtLast, true);
        }
    }

    void end() {
        needChecks();
        Checks.due("sentences were found", claimed.size() > 20, true);
        for (Map.Entry<String, Boolean> sentence : claimed.entrySet()) {
            Checks.due("a test for: " + sentence.getKey(), sentence.getValue(), true);
        }
    }
}
