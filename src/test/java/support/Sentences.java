import java.io.IOException;
import java.nio.file.Files;
import java.nio.file.Path;
import java.util.ArrayList;
import java.util.List;
import java.util.regex.Matcher;
import java.util.regex.Pattern;

/**
 * Ties each test to the words of the document that it looks at, and finds boundaries in a chapter that no test holds:
 * the reasons of its exceptions, its ranges, what is at most or at least a number, and what is answered if.
 */
final class Sentences {
    private static final Path DOCUMENT = Path.of("../shared/DOC.md");
    private static final Pattern EDGE = Pattern.compile("-?\\b\\d+ if [^,;.(]*|\\bat (most|least) \\d+|\\b\\d+ to \\d+");
    private static final Pattern REASONS = Pattern.compile("Throws `\\w+` if ([^\n]*)");

    private static final List<String> held = new ArrayList<>();
    private static String heading = "";
    private static String chapter = "";
    private static boolean isDocumentThere = true;

    private Sentences() {
    }

    /** From here on tests hold words of the chapter that begins so. */
    static void chapter(String nextHeading) {
        findWhatNoTestHolds();
        heading = nextHeading;
        chapter = chapterOf(nextHeading);
        held.clear();
    }

    static void hold(String words, Runnable test) {
        Checks.note(!isDocumentThere || folded(chapter).contains(words), heading + " does not say: " + words);
        Checks.note(!held.contains(words), heading + " has two tests of: " + words);
        held.add(words);
        int made = Checks.made();
        int wrong = Checks.wrong();
        test.run();
        Checks.note(Checks.made() > made, heading + " has a test that looks at nothing: " + words);
        if (Checks.wrong() > wrong) {
            System.out.println("  so " + heading + " is broken, where it says: " + words);
        }
    }

    static void end(String name) {
        findWhatNoTestHolds();
        Checks.end(name);
    }

    private static void findWhatNoTestHolds() {
        Matcher edges = EDGE.matcher(folded(chapter));
        while (edges.find()) {
            isHeld(edges.group().trim());
        }
        Matcher reasons = REASONS.matcher(chapter);
        while (reasons.find()) {
            for (String reason : reasons.group(1).split(", or |, | or ")) {
                isHeld(reason);
            }
        }
    }

    private static void isHeld(String edge) {
        boolean isThere = held.stream().anyMatch(words -> words.contains(edge));
        Checks.note(isThere, heading + " has no test of: " + edge);
    }

    private static String chapterOf(String itsHeading) {
        try {
            for (String part : Files.readString(DOCUMENT).split("\n## ")) {
                if (part.startsWith(itsHeading + "\n") || part.startsWith(itsHeading + ":")) {
                    return part;
                }
            }
        } catch (IOException e) {
            // The tests hold without it: only their words are not compared then.
            System.out.println("the document can't be read: " + e);
            isDocumentThere = false;
        }
        return "";
    }

    private static String folded(String text) {
        return text.replaceAll("\\s+", " ");
    }
}
