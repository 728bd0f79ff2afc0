import java.io.IOException;
import java.nio.file.Files;
import java.nio.file.Path;
import java.util.TreeMap;

/**
 * What the tests of boundary cases share. Each looks at one sentence of the document: it is named by
 * its promise's number and its own words, so that a wrong answer says which sentence is broken.
 */
abstract class Edges {
    static final int UNKNOWN = -1, OUTSIDE = -2, STATE = -3, FULL = -4, NONE = -9;

    // hits of the pairs: 0:1 is 1:3, 0:2 is 3:2, 0:3 is 3:1, 1:2 is 3:2, 1:3 is 3:2, 2:3 is 0:3
    static final String FOUR = "BF0llpF1lwfF2pppF3fplG03G12G29";

    static final String SIX_FENCERS = "BF0lllF1pppF2fffF3wwwF0lpfF1wfp";
    static final String LARGEST = SIX_FENCERS + "G00G19G25G33G57";

    private static final TreeMap<Integer, Integer> LOOKED_AT = new TreeMap<>();
    private static final String DOCUMENT = documentOnOneLine();
    private static String sentence = "";

    private static String documentOnOneLine() {
        try {
            return Files.readString(Path.of("../shared/DOC.md")).replaceAll("\\s+", " ");
        } catch (IOException absent) {
            return "";
        }
    }

    /** What follows looks at these words, by which the promise of that number is told. */
    static void edge(int promise, String words) {
        sentence = "promise " + promise + ", \"" + words + "\": ";
        LOOKED_AT.merge(promise, 1, Integer::sum);
        Check.holds(sentence + "stands in the document", DOCUMENT.isEmpty() || DOCUMENT.contains(words));
    }

    static void due(String call, long got, long want) {
        Check.due(sentence + call, got, want);
    }

    /** Ends a test that has to look at each promise from the first to the last. */
    static void end(String test, int first, int last) {
        for (int promise = first; promise <= last; promise++) {
            Check.holds("promise " + promise + " is looked at", LOOKED_AT.containsKey(promise));
        }
        Check.end(test + " " + LOOKED_AT);
    }

    static void write(FoilBazaar x, String text) {
        for (int k = 0; k < text.length(); k++) {
            x.write(text.charAt(k));
        }
    }

    static FoilBazaar textOf(String text) {
        FoilBazaar x = new FoilBazaar();
        write(x, text);
        return x;
    }

    static FoilBazaar of(String text) {
        FoilBazaar x = textOf(text);
        Check.holds("bazaar() of " + text, x.bazaar() >= 0);
        return x;
    }

    static void anew(FoilBazaar x, String text) {
        x.wipe();
        write(x, text);
        Check.holds("bazaar() anew of " + text, x.bazaar() >= 0);
    }

    static void steps(FoilBazaar x, int fencer, int times) {
        for (int k = 0; k < times; k++) {
            x.step(fencer);
        }
    }

    /** Salutes till the purse holds so much; those who have more than that stay as they are. */
    static void fillPurse(FoilBazaar x, int fencer, int upTo) {
        for (int k = 0; k < 12 && x.fencer(fencer, 2) < upTo; k++) {
            x.salute(fencer, Math.min(9, upTo - x.fencer(fencer, 2)));
        }
    }
}
