import java.io.IOException;
import java.nio.file.Files;
import java.nio.file.Path;
import java.util.ArrayList;
import java.util.Arrays;
import java.util.List;
import java.util.regex.Matcher;
import java.util.regex.Pattern;

/** The document's words, and which of them are held by a test. */
final class Doc {
    static final int PROMISES = 29;
    private static final String LIFE = "An object is used for at most";
    /** Words that promise nothing: signatures, and how the document is set. */
    private static final Pattern SETTING = Pattern.compile(
        "```java.*?```|```(?:text)?|Ahead of the calls .*?\\.|`[^`]*`|==== \\d");

    // Part 0: the face, for how long an object is used, and the terms; the others: the promises.
    private final String[] parts = new String[PROMISES + 1];
    private final boolean[][] held = new boolean[PROMISES + 1][];
    private final boolean[] holdsAny = new boolean[PROMISES + 1];

    /** Null, if the document is not there. */
    static Doc read(Path file) throws IOException {
        return Files.isReadable(file) ? new Doc(Files.readString(file)) : null;
    }

    private Doc(String all) {
        Arrays.fill(parts, "");
        for (String section : all.split("(?m)^## ")) {
            int end = section.indexOf('\n');
            add(section.substring(0, Math.max(0, end)), section.substring(end + 1).replaceAll("\\s+", " "));
        }
        for (int i = 0; i <= PROMISES; i++) {
            held[i] = new boolean[parts[i].length()];
            Matcher setting = SETTING.matcher(parts[i]);
            while (setting.find()) {
                Arrays.fill(held[i], setting.start(), setting.end(), true);
            }
        }
    }

    private void add(String heading, String words) {
        if (heading.startsWith("Promise ")) {
            parts[Integer.parseInt(heading.substring(8, heading.indexOf(':')))] += words;
        } else if (heading.equals("What it is")) {
            parts[0] += words.substring(Math.max(0, words.indexOf(LIFE)));
        } else if (heading.equals("The public face") || heading.equals("Terms")) {
            parts[0] += words;
        }
    }

    /** Whether a sentence stands in a promise or in the terms; it is held from now on. */
    boolean hold(int promise, String sentence) {
        boolean stands = mark(promise, sentence) | mark(0, sentence);
        holdsAny[promise] |= stands;
        return stands;
    }

    private boolean mark(int part, String sentence) {
        int at = parts[part].indexOf(sentence);
        if (at >= 0) {
            Arrays.fill(held[part], at, at + sentence.length(), true);
        }
        return at >= 0;
    }

    /** The words that stand in no sentence held by a test, and the promises that have no such sentence. */
    List<String> notHeld() {
        List<String> found = new ArrayList<>();
        for (int part = 0; part <= PROMISES; part++) {
            String name = part == 0 ? "terms" : "promise " + part;
            if (part > 0 && !holdsAny[part]) {
                found.add(name);
            }
            for (String words : open(part).split("\n")) {
                if (words.matches(".*[A-Za-z0-9].*")) {
                    found.add(name + ": " + words.trim());
                }
            }
        }
        return found;
    }

    /** A part's words, those that are held cut out. */
    private String open(int part) {
        char[] letters = parts[part].toCharArray();
        for (int i = 0; i < letters.length; i++) {
            letters[i] = held[part][i] ? '\n' : letters[i];
        }
        return new String(letters);
    }
}
