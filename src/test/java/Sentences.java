import java.io.IOException;
import java.nio.file.Files;
import java.nio.file.Path;

/** Tests that each belong to a sentence of the document: it is quoted, and looked up there, so that no test outlives it. */
final class Sentences {
    private static final Path DOCUMENT = Path.of("../shared/DOC.md");

    private final Due due;
    private final String document;
    private String part = "";
    private String sentence = "";
    private int answers = 1;

    Sentences(String test) {
        due = new Due(test);
        document = read();
    }

    private static String read() {
        if (!Files.isReadable(DOCUMENT)) {
            System.out.println("no " + DOCUMENT + ": the quotes are not looked up");
            return null;
        }
        try {
            return Files.readString(DOCUMENT);
        } catch (IOException e) {
            throw new IllegalStateException(e);
        }
    }

    /** The answers from here on belong to this sentence, of the part of the document with this title ("Promise 3", say). */
    void of(String title, String quoted) {
        endOfSentence();
        part = title;
        sentence = quoted;
        answers = 0;
        if (document != null) due.due("the quote from " + title + ": " + quoted, section(title).contains(oneLine(quoted)) ? 1 : 0, 1);
    }

    void of(int promise, String quoted) {
        of("Promise " + promise, quoted);
    }

    void due(String call, long got, long want) {
        answers++;
        due.due(part + ", \"" + sentence + "\": " + call, got, want);
    }

    void due(ElevenYoghurts x, String call, long want) {
        due(call, Calls.answer(x, call), want);
    }

    void finish() {
        endOfSentence();
        due.finish();
    }

    private void endOfSentence() {
        if (answers == 0) due.due("answers asked for by " + part + ", \"" + sentence + "\"", 0, 1);
    }

    private String section(String title) {
        String text = "\n" + document + "\n## ";
        int from = text.indexOf("\n## " + title);
        while (from >= 0 && Character.isDigit(text.charAt(from + 4 + title.length()))) from = text.indexOf("\n## " + title, from + 1);
        return from < 0 ? "" : oneLine(text.substring(from, text.indexOf("\n## ", from + 4)));
    }

    private static String oneLine(String text) {
        return text.replaceAll("\\s+", " ");
    }
}
