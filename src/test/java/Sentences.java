import java.io.IOException;
import java.nio.file.Files;
import java.nio.file.Path;
import java.util.ArrayList;
import java.util.LinkedHashMap;
import java.util.List;
import java.util.Map;

/**
 * Runs a test for each sentence of the document and tells which sentence does not hold. A quote that is not in
 * the document under its heading is wrong, and so is a sentence of "Terms" or of a promise that nobody quotes.
 */
final class Sentences {
    private final Checks checks;
    private final Map<String, List<String>> lines = new LinkedHashMap<>();
    private final Map<String, List<String>> quotes = new LinkedHashMap<>();
    private String heading = "";

    Sentences(Checks checks, Path document) throws IOException {
        this.checks = checks;
        for (String line : Files.readAllLines(document)) {
            if (line.startsWith("#")) {
                heading = line.replaceFirst("^#+ ", "");
                lines.put(heading, new ArrayList<>());
                quotes.put(heading, new ArrayList<>());
            } else if (!line.isBlank() && !heading.isEmpty()) {
                lines.get(heading).add(line);
            }
        }
    }

    /** What is quoted from now on stands under this heading. */
    void under(String newHeading) {
        heading = newHeading;
        if (!lines.containsKey(heading)) {
            throw new IllegalStateException("the document has no heading " + heading);
        }
    }

    void holds(String words, Runnable test) {
        checks.begin(heading + ", \"" + words + "\"");
        quotes.get(heading).add(words);
        if (!String.join("\n", lines.get(heading)).contains(words)) {
            checks.tell("this is not in the document");
        }
        int ahead = checks.comparedSoFar();
        try {
            test.run();
        } catch (RuntimeException e) {
            checks.tell("threw " + e + " at " + e.getStackTrace()[0]);
        }
        if (checks.comparedSoFar() == ahead) {
            checks.tell("nothing was compared");
        }
    }

    void end() {
        checks.begin("the whole document");
        boolean binds = false;
        int sentences = 0;
        for (String name : lines.keySet()) {
            binds = (binds || name.equals("Terms")) && !name.equals("Not promised");
            if (binds) {
                sentences += findUnquoted(name);
            }
        }
        checks.same("are there sentences", 1, sentences > 0 ? 1 : 0);
        checks.end();
    }

    private int findUnquoted(String name) {
        int sentences = 0;
        for (String line : lines.get(name)) {
            for (String sentence : sentencesOf(line)) {
                sentences++;
                if (!isQuoted(name, sentence)) {
                    checks.tell("no test of \"" + sentence + "\" under " + name);
                }
            }
        }
        return sentences;
    }

    /** A signature is FaceTest's, and so is what the interface says ahead of the calls. */
    private static String[] sentencesOf(String line) {
        if (line.startsWith("Ahead of the calls ")) {
            return new String[0];
        }
        return line.replaceFirst("^`[^`]*`: ", "").split("(?<=\\.) (?=[A-Z(])|; ");
    }

    private boolean isQuoted(String name, String sentence) {
        for (String quote : quotes.get(name)) {
            if (quote.contains(sentence) || sentence.contains(quote)) {
                return true;
            }
        }
        return false;
    }
}
