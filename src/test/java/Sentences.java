import java.io.IOException;
import java.nio.file.Files;
import java.nio.file.Path;
import java.util.ArrayList;
import java.util.HashSet;
import java.util.LinkedHashMap;
import java.util.List;
import java.util.Map;
import java.util.Set;

/**
 * The sentences of the document, by the headings under which they stand, and which of them are held
 * by a test. A sentence is told word for word, so that a test of what the document does not say, and
 * a sentence that nobody looked at, are both seen.
 */
final class Sentences {
    private static final Map<String, List<String>> byHeading = new LinkedHashMap<>();
    private static final Set<String> looked = new HashSet<>();
    private static String heading = "";
    private static String sentence = "";
    private static int held = 0;

    private Sentences() {
    }

    static void read(Path document) throws IOException {
        String above = "";
        String paragraph = "";
        boolean isCode = false;
        for (String line : Files.readString(document).split("\n")) {
            isCode ^= line.startsWith("```");
            boolean isHeading = line.startsWith("#");
            if (isCode || isHeading || line.isBlank() || line.startsWith("- ")) {
                add(above, paragraph);
                paragraph = "";
            }
            above = isHeading && !isCode ? line.replaceFirst("#+ ", "") : above;
            if (!isCode && !isHeading && !line.startsWith("```")) {
                paragraph += " " + line.strip();
            }
        }
        add(above, paragraph);
    }

    private static void add(String above, String paragraph) {
        for (String one : paragraph.strip().split("(?<=\\.) +")) {
            if (!one.isEmpty()) {
                byHeading.computeIfAbsent(above, key -> new ArrayList<>()).add(one);
            }
        }
    }

    /** The sentences that are told from here on stand under this heading. */
    static void under(String words) {
        heading = words;
        Check.same("the document has the heading " + words, byHeading.containsKey(words), true);
    }

    /** The test holds this sentence: it would fail if the sentence were broken. */
    static void hold(String words, Runnable test) {
        look(words);
        held++;
        sentence = words;
        test.run();
        sentence = "";
    }

    /** This sentence tells no case of its own: it is a name, or others tell its cases. */
    static void noCase(String words) {
        look(words);
    }

    private static void look(String words) {
        boolean isThere = byHeading.getOrDefault(heading, List.of()).contains(words);
        Check.same("'" + heading + "' has the sentence '" + words + "'", isThere, true);
        Check.same("'" + heading + "' had this sentence already: '" + words + "'", looked.add(heading + words), true);
    }

    /** Where a test stands, for what is told when an answer is not as due. */
    static String place() {
        return heading + ", '" + sentence + "'";
    }

    /** Every sentence must have been looked at, but for names, signatures and what comes behind a heading. */
    static void end() {
        byHeading.forEach((above, all) -> {
            for (String one : all) {
                boolean isName = one.matches("[A-Z]\\w+\\.|`.*|---- .*|- `(part|kit|shelf|place)`: the number of the \\w+");
                Check.same("'" + above + "': a test of '" + one + "'", isName || looked.contains(above + one), true);
            }
        });
        System.out.println(held + " sentences are held by tests of their own");
    }
}
