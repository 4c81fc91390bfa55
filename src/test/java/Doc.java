import java.io.IOException;
import java.nio.file.Files;
import java.nio.file.Path;
import java.util.ArrayList;
import java.util.List;
import java.util.TreeMap;
import java.util.regex.Matcher;
import java.util.regex.Pattern;

/** The document's promises and terms as plain lines of text, and the pieces into which their sentences fall. */
final class Doc {
    private static final int PROMISES = 51;

    private final TreeMap<Integer, String> promises = new TreeMap<>();
    private final String terms;

    private Doc(String text) {
        terms = flat(between(text, "\n## Terms\n", "\nAhead of the calls"));
        Matcher heads = Pattern.compile("\n## Promise (\\d+): [^\n]*\n").matcher(text);
        while (heads.find()) {
            String section = text.substring(heads.end());
            int end = section.indexOf("\n## ");
            String said = flat(end < 0 ? section : section.substring(0, end));
            // ahead of the words stands the call itself
            promises.put(Integer.valueOf(heads.group(1)), said.replaceFirst("^`[^`]*`: ", ""));
        }
    }

    static Doc read(Path file) throws IOException {
        return new Doc(Files.readString(file));
    }

    boolean isWhole() {
        return promises.size() == PROMISES && !terms.isEmpty();
    }

    private static String between(String text, String from, String to) {
        int start = text.indexOf(from);
        int end = text.indexOf(to);
        return start < 0 || end < start ? "" : text.substring(start + from.length(), end);
    }

    private static String flat(String text) {
        return text.replace("```text", " ").replace("```", " ").replaceAll("\\s+", " ").trim();
    }

    /** A test's sentence stands in its promise or in the terms. */
    boolean says(int promise, String sentence) {
        return promises.getOrDefault(promise, "").contains(sentence) || terms.contains(sentence);
    }

    String promise(int number) {
        return promises.getOrDefault(number, "");
    }

    int size() {
        return promises.size();
    }

    List<String> piecesOf(int promise) {
        return pieces(promise(promise));
    }

    List<String> piecesOfTerms() {
        return pieces(terms);
    }

    /** Cut behind each full stop and each semicolon; " .. " is none. */
    private static List<String> pieces(String text) {
        List<String> pieces = new ArrayList<>();
        for (String piece : text.split("(?<![. ])[.;](\\)?)(?: |$)")) {
            if (!piece.isBlank()) {
                pieces.add(piece.trim());
            }
        }
        return pieces;
    }
}
