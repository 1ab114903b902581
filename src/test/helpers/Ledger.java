import java.io.IOException;
import java.nio.charset.StandardCharsets;
import java.nio.file.Files;
import java.nio.file.Path;
import java.util.ArrayList;
import java.util.Arrays;
import java.util.List;

/**
 * Keeps account of the document's sentences: each one of a part is quoted ahead of the checks that
 * hold it, or is named as one without a boundary case. A sentence that is neither fails the test.
 */
final class Ledger {
    private static final Path DOCUMENT = Path.of("../shared/DOC.md");
    private static final List<String> sentences = new ArrayList<>();
    private static final List<Boolean> accounted = new ArrayList<>();
    private static String quoted = "";
    private static int seenAhead;

    private Ledger() {
    }

    /** Takes the document's part between two headings; without the document, no account is kept. */
    static void openPart(String heading, String behind) {
        if (!Files.isReadable(DOCUMENT)) {
            System.out.println("there is no " + DOCUMENT + ": no account of its sentences");
            return;
        }
        String all;
        try {
            all = Files.readString(DOCUMENT, StandardCharsets.UTF_8);
        } catch (IOException e) {
            throw new IllegalStateException("the document can't be read", e);
        }
        int start = all.indexOf("\n" + heading);
        int end = all.indexOf("\n" + behind);
        Due.is("the document has the part " + heading, start >= 0 && end > start ? 1 : 0, 1);
        if (start >= 0 && end > start) {
            for (String paragraph : all.substring(start, end).split("\n(?=- )|\n\\s*\n")) {
                takeParagraph(plain(paragraph));
            }
        }
    }

    private static String plain(String text) {
        return text.replace("`", "").replaceAll("\\s+", " ").trim();
    }

    private static void takeParagraph(String paragraph) {
        if (paragraph.startsWith("#")) {
            return;
        }
        for (String sentence : paragraph.split("(?<=\\.)\\s+(?=[A-Z(])")) {
            takeParts(sentence);
        }
    }

    /** Parts end at semicolons outside of brackets; headings of one or two words are none. */
    private static void takeParts(String sentence) {
        int depth = 0;
        int start = 0;
        for (int i = 0; i <= sentence.length(); i++) {
            char c = i < sentence.length() ? sentence.charAt(i) : ';';
            depth += c == '(' ? 1 : c == ')' ? -1 : 0;
            if (i == sentence.length() || c == ';' && depth == 0) {
                String part = sentence.substring(start, i).replaceFirst("^- ", "").trim();
                if (part.split(" ").length > 2) {
                    sentences.add(part);
                    accounted.add(false);
                }
                start = i + 1;
            }
        }
    }

    /** The checks that follow are those of this sentence, or of this part of one. */
    static void says(String quote) {
        closeQuote();
        quoted = quote;
        seenAhead = Due.seen();
        Due.sentence(quote);
        account(quote);
    }

    /** Sentences that explain a word, or whose case is another sentence's. */
    static void namesNoEdge(String... quotes) {
        Arrays.stream(quotes).forEach(Ledger::account);
    }

    /** A sentence that stands in the document more than once is accounted for in its order. */
    private static void account(String quote) {
        if (sentences.isEmpty()) {
            return;
        }
        String wanted = plain(quote);
        boolean stands = false;
        for (int i = 0; i < sentences.size(); i++) {
            boolean here = sentences.get(i).contains(wanted);
            stands |= here;
            if (here && !accounted.get(i)) {
                accounted.set(i, true);
                return;
            }
        }
        Due.is("the document says \"" + quote + "\"", stands ? 1 : 0, 1);
    }

    private static void closeQuote() {
        if (!quoted.isEmpty()) {
            Due.is("there are checks of \"" + quoted + "\"", Due.seen() > seenAhead ? 1 : 0, 1);
        }
    }

    static void end() {
        closeQuote();
        Due.sentence("");
        for (int i = 0; i < sentences.size(); i++) {
            Due.is("accounted for: \"" + sentences.get(i) + "\"", accounted.get(i) ? 1 : 0, 1);
        }
        System.out.println(sentences.size() + " sentences are accounted for");
        Due.end();
    }
}
