import java.io.IOException;
import java.nio.file.Files;
import java.nio.file.Path;
import java.util.Set;
import java.util.TreeSet;

/**
 * Each sentence of the document that names a boundary case, with a test of its own (promises 1 to 51).
 * Looked at as well: that each test's sentence stands in the document, that each sentence of a promise
 * and of the terms has a test, and that each refusal a promise names was met.
 */
public final class BoundsTest {
    private static final Path DOC = Path.of("../shared/DOC.md");
    private static final String[] REFUSALS = {"BAD", "STATE", "NOTHING", "BEYOND", "UNLIKE", "NOUGHT", "SIZE"};

    private static int wrong;

    private BoundsTest() {
    }

    public static void main(String[] args) throws IOException {
        RowsBounds.all();
        TextsBounds.all();
        CellsBounds.all();
        TicksBounds.all();
        MachinesBounds.all();
        KeptBounds.all();
        TruthBounds.all();
        ToldBounds.all();
        int looked = 0;
        for (Run run : Run.all()) {
            looked += run.looked();
            tell(run.looked() > 0,
                    "promise " + run.promise + " '" + run.sentence + "' has a test that looks at nothing");
            for (String fault : run.faults()) {
                tell(false, "promise " + run.promise + " '" + run.sentence + "': " + fault);
            }
        }
        if (Files.exists(DOC)) {
            compareWith(Doc.read(DOC));
        } else {
            System.out.println("BoundsTest: no " + DOC + " here, so the sentences are not compared with it");
        }
        System.out.println("BoundsTest: " + Run.all().size() + " tests, " + looked + " looked at, " + wrong + " wrong");
        if (wrong != 0) {
            System.exit(1);
        }
    }

    private static void tell(boolean fine, String what) {
        if (!fine) {
            wrong++;
            System.out.println("BoundsTest: " + what);
        }
    }

    private static void compareWith(Doc doc) {
        tell(doc.isWhole(), "the document was not read whole");
        for (Run run : Run.all()) {
            tell(doc.says(run.promise, run.sentence),
                    "the document does not say '" + run.sentence + "' for promise " + run.promise);
        }
        for (int promise = 1; promise <= doc.size(); promise++) {
            for (String piece : doc.piecesOf(promise)) {
                tell(hasTest(promise, piece), "no test of promise " + promise + " '" + piece + "'");
            }
            refusalsOf(promise, doc.promise(promise));
        }
        for (String piece : doc.piecesOfTerms()) {
            tell(hasTest(0, piece), "no test of the terms' '" + piece + "'");
        }
    }

    /** A promise's piece needs a test of that promise; a piece of the terms one of any, which names more than a word. */
    private static boolean hasTest(int promise, String piece) {
        for (Run run : Run.all()) {
            boolean counts = promise == 0 ? run.sentence.contains(" ") : run.promise == promise;
            if (counts && (piece.contains(run.sentence) || run.sentence.contains(piece))) {
                return true;
            }
        }
        return false;
    }

    private static void refusalsOf(int promise, String text) {
        Set<String> met = new TreeSet<>();
        for (Run run : Run.all()) {
            if (run.promise == promise) {
                met.addAll(run.refusals);
            }
        }
        // over() answers BAD by 0, so that nothing tells it from another answer
        for (String word : REFUSALS) {
            boolean named = text.matches("(?s).*\\b" + word + "\\b.*") && !text.contains(word + ": 0");
            tell(!named || met.contains(word),
                    "promise " + promise + " names " + word + ", but no test of it is refused so");
        }
    }
}
