import java.io.IOException;
import java.nio.file.Files;
import java.nio.file.Path;
import java.util.ArrayList;
import java.util.Arrays;
import java.util.List;
import java.util.regex.Matcher;
import java.util.regex.Pattern;

/**
 * The document, section by section. A test quotes each sentence of a section
 * along with the checks that would fail if the sentence did not hold; what a
 * section says and no test quotes is a fault.
 */
final class Sentences {
    private static final Path DOCUMENT = Path.of("../shared/DOC.md");
    // FaceTest compares the signatures; the headings of groups say nothing.
    private static final Pattern NOT_SAID = Pattern.compile("(?m)^(`[^`]*\\)`|---- [a-z ]+|The constants:)$");
    private static final Pattern WORD = Pattern.compile("[^\\s,.;:()-][^;.]*");

    private final String document;
    private String title = "";
    private String text = "";
    private boolean[] quoted = new boolean[0];

    Sentences() {
        try {
            document = Files.readString(DOCUMENT);
        } catch (IOException e) {
            throw new IllegalStateException("the document cannot be read", e);
        }
    }

    /** Goes on to a section, and looks whether all of the one before was quoted. */
    void section(String newTitle) {
        lookForRest();
        title = newTitle;
        Check.under(title);
        int heading = document.indexOf("## " + title + "\n");
        if (heading < 0) {
            Check.fault("the document has no such section");
        }
        int from = heading < 0 ? document.length() : document.indexOf('\n', heading);
        int to = document.indexOf("\n## ", from);
        String body = document.substring(from, to < 0 ? document.length() : to);
        text = NOT_SAID.matcher(body).replaceAll("").replaceAll("(?m)^- ", "").replaceAll("\\s+", " ");
        quoted = new boolean[text.length()];
    }

    void says(String sentence, Runnable checks) {
        Check.under(title + ", \"" + sentence + "\"");
        int at = text.indexOf(sentence);
        while (at >= 0 && quoted[at]) {
            at = text.indexOf(sentence, at + 1);
        }
        if (at < 0) {
            Check.fault("the document does not say so");
        } else {
            Arrays.fill(quoted, at, at + sentence.length(), true);
        }
        int before = Check.made();
        checks.run();
        if (Check.made() == before) {
            Check.fault("nothing was checked");
        }
    }

    void end() {
        lookForRest();
        Check.end();
    }

    /** What the section says from the first words to the last ones. */
    String passage(String first, String last) {
        int from = text.indexOf(first);
        int to = from < 0 ? -1 : text.indexOf(last, from);
        return to < 0 ? first : text.substring(from, to + last.length());
    }

    /** All that a pattern finds in the whole document: its first group. */
    List<String> all(String pattern) {
        List<String> found = new ArrayList<>();
        Matcher matcher = Pattern.compile(pattern, Pattern.MULTILINE).matcher(document);
        while (matcher.find()) {
            found.add(matcher.group(1));
        }
        return found;
    }

    private void lookForRest() {
        StringBuilder rest = new StringBuilder();
        for (int i = 0; i < text.length(); i++) {
            rest.append(quoted[i] ? '.' : text.charAt(i));
        }
        Matcher unquoted = WORD.matcher(rest);
        while (unquoted.find()) {
            Check.under(title);
            Check.fault("no test quotes: " + unquoted.group());
        }
    }
}
