import java.io.IOException;
import java.io.UncheckedIOException;
import java.nio.charset.StandardCharsets;
import java.nio.file.Files;
import java.nio.file.Path;

/** Counts answers that are not as due, and prints them. */
final class Checks {
    private static final Path DOCUMENT = Path.of("../shared/DOC.md");

    private int wrong;
    private int all;
    private int sentences;
    private String sentence = "";
    private String document = "";

    /** The document's words that the next checks hold to: they must stand there. */
    void sentence(String words) {
        sentence = "\"" + words + "\": ";
        sentences++;
        // The answers can be checked without the document: they do not depend on where it lies.
        if (Files.exists(DOCUMENT)) {
            isTrue("the document says so", document().contains(words));
        }
    }

    private String document() {
        if (document.isEmpty()) {
            try {
                document = Files.readString(DOCUMENT, StandardCharsets.UTF_8).replaceAll("\\s+", " ");
            } catch (IOException e) {
                throw new UncheckedIOException(e);
            }
        }
        return document;
    }

    void due(String what, long got, long want) {
        all++;
        if (got != want) {
            wrong++;
            if (wrong <= 50) {
                System.out.println(sentence + what + ": answered " + got + ", due is " + want);
            }
        }
    }

    void isTrue(String what, boolean holds) {
        due(what, holds ? 1 : 0, 1);
    }

    void end(String name) {
        String held = sentences == 0 ? "" : sentences + " sentences, ";
        System.out.println(name + ": " + held + all + " checks, " + wrong + " wrong");
        if (wrong != 0) {
            System.exit(1);
        }
    }

    /** Types a text into an object; the letters are those of the text. */
    static void type(SneakPaths x, String text) {
        for (int i = 0; i < text.length(); i++) {
            x.type(text.charAt(i));
        }
    }

    /** A new object that was told a net. */
    static SneakPaths told(String text) {
        SneakPaths x = new SneakPaths();
        type(x, text);
        int items = x.net();
        if (items < 0) {
            throw new IllegalArgumentException(text + " has a fault: " + items);
        }
        return x;
    }
}
