import java.io.IOException;
import java.nio.charset.StandardCharsets;
import java.nio.file.Files;
import java.nio.file.Path;

/**
 * Tests told sentence by sentence: section() and says() name what the answers behind them stand for. A quote that the
 * document does not have is a fault of the test, and so is a sentence of the document that no test quotes.
 */
abstract class Sentences extends Checks {
    private static final Path DOCUMENT = Path.of("../shared/DOC.md");

    private static String document = "";
    private static boolean[] told = {};
    private static int sectionFrom = 0;
    private static int sectionTo = 0;
    private static String heading = "";
    private static String sentence = "";
    private static int checksBefore = 0;

    /** Without the document the answers are checked all the same, but not the quotes. */
    static void open() throws IOException {
        if (!Files.exists(DOCUMENT)) {
            System.out.println("there is no " + DOCUMENT + ": the quotes are not compared with it");
            return;
        }
        document = "\n" + Files.readString(DOCUMENT, StandardCharsets.ISO_8859_1) + "\n#\n";
        told = new boolean[document.length()];
    }

    static void section(String name) {
        endSentence();
        heading = name;
        if (document.isEmpty()) {
            return;
        }
        int at = document.indexOf("\n" + name + "\n");
        if (at < 0) {
            wrong("the document has no section " + name);
        }
        sectionFrom = Math.max(at, 0);
        sectionTo = document.indexOf("\n#", sectionFrom + 1);
    }

    /** The answers from here on are due because of this sentence of the section. */
    static void says(String quote) {
        endSentence();
        tell(quote);
        sentence = quote;
        about = "[" + heading.replaceFirst("#+ ", "") + ": " + quote + "] ";
        checksBefore = checks;
    }

    /** A sentence that asks for no answer. */
    static void onlyNames(String quote) {
        endSentence();
        tell(quote);
    }

    private static void tell(String quote) {
        if (document.isEmpty()) {
            return;
        }
        int at = document.indexOf(quote, sectionFrom);
        if (at < 0 || at + quote.length() > sectionTo) {
            wrong("the section " + heading + " does not say: " + quote);
            return;
        }
        for (int i = at; i < at + quote.length(); i++) {
            told[i] = true;
        }
    }

    private static void endSentence() {
        about = "";
        if (!sentence.isEmpty() && checks == checksBefore) {
            wrong("no answer is checked for: " + sentence);
        }
        sentence = "";
    }

    /** From one heading to another, each word of the document, but for the headings, stands in a quote. */
    static void dueAllTold(String from, String before) {
        endSentence();
        if (document.isEmpty()) {
            return;
        }
        int start = document.indexOf("\n" + from + "\n");
        int end = document.indexOf("\n" + before + "\n");
        if (start < 0 || end < start) {
            wrong("the document has no sections from " + from + " to " + before);
            return;
        }
        int at = start + 1;
        for (String line : document.substring(start + 1, end).split("\n", -1)) {
            if (!line.startsWith("#") && !isTold(line, at)) {
                wrong("no test quotes all of: " + line);
            }
            at += line.length() + 1;
        }
    }

    private static boolean isTold(String line, int at) {
        for (int i = 0; i < line.length(); i++) {
            if (Character.isLetterOrDigit(line.charAt(i)) && !told[at + i]) {
                return false;
            }
        }
        return true;
    }
}
