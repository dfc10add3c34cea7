import java.io.IOException;
import java.nio.file.Files;
import java.nio.file.Path;
import java.util.ArrayList;
import java.util.List;
import java.util.regex.Matcher;
import java.util.regex.Pattern;

/** The document, and which of its words are held by a test of their own. */
final class Doc {
    private static final Path FILE = Path.of("../shared/DOC.md");
    private static final int PROMISES = 61;
    private static final String TEXT = read();
    private static final boolean[] HELD = new boolean[TEXT.length()];

    private Doc() {
    }

    private static String read() {
        try {
            return Files.readString(FILE).replaceAll("\\s+", " ");
        } catch (IOException e) {
            Due.note("the document cannot be read: " + e);
            return "";
        }
    }

    /** What is asked from now on holds these words of the opening or of the terms. */
    static void says(String words) {
        hold(words, 0, begin(1));
    }

    /** What is asked from now on holds these words of a promise. */
    static void promises(int n, String words) {
        hold(words, begin(n), begin(n + 1));
    }

    private static int begin(int promise) {
        int at = TEXT.indexOf(promise > PROMISES ? "## Not promised" : "## Promise " + promise + ": ");
        return at < 0 ? TEXT.length() : at;
    }

    private static void hold(String words, int from, int to) {
        Due.holds(words);
        int at = TEXT.indexOf(words, from);
        Due.is("the document says so", at >= 0 && at + words.length() <= to, true);
        for (int i = Math.max(at, 0); i < at + words.length(); i++) {
            HELD[i] = true;
        }
    }

    /** Tells of each piece of the terms and the promises that no test holds. */
    static void allIsHeld() {
        Due.holds("");
        Matcher told = Pattern.compile("## Terms|```(text)?|==== [23]\\.|## Promise \\d+: [\\w ]+ `[^`]*`: ").matcher(TEXT);
        boolean[] heading = new boolean[TEXT.length()];
        while (told.find()) {
            java.util.Arrays.fill(heading, told.start(), told.end(), true);
        }
        for (String piece : pieces(heading)) {
            Due.note("no test of its own holds: " + piece);
        }
        Due.is("the document has terms", TEXT.contains("## Terms"), true);
    }

    private static List<String> pieces(boolean[] heading) {
        List<String> pieces = new ArrayList<>();
        StringBuilder piece = new StringBuilder();
        int end = begin(PROMISES + 1);
        for (int i = Math.max(0, TEXT.indexOf("## Terms")); i <= end; i++) {
            boolean open = i < end && !HELD[i] && !heading[i];
            if (open) {
                piece.append(TEXT.charAt(i));
            } else if (piece.length() > 0) {
                if (piece.toString().matches(".*[A-Za-z0-9].*")) {
                    pieces.add(piece.toString());
                }
                piece.setLength(0);
            }
        }
        return pieces;
    }
}
