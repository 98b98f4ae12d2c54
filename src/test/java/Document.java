import java.io.IOException;
import java.nio.file.Files;
import java.nio.file.Path;
import java.util.ArrayList;
import java.util.Comparator;
import java.util.HashSet;
import java.util.List;
import java.util.Map;
import java.util.Set;
import java.util.TreeMap;

/** The words of the document that tests have told, held against the document: none of its own is without a test. */
final class Document {
    private static final Path FILE = Path.of("../shared/DOC.md");
    /** The number under which the words before the first promise are told. */
    static final int TERMS = 0;
    private static final int PROMISES = 20;

    private final Map<Integer, Set<String>> told = new TreeMap<>();

    void tell(int promise, String words) {
        told.computeIfAbsent(promise, key -> new HashSet<>()).add(words);
    }

    void end(Check check) throws IOException {
        if (!Files.exists(FILE)) {
            System.out.println(FILE + " is not here: the sentences are not held against it");
            return;
        }
        String all = Files.readString(FILE);
        for (int promise = TERMS; promise <= PROMISES; promise++) {
            String left = promise == TERMS ? terms(all) : section(all, "## Promise " + promise + ":");
            List<String> longestFirst = new ArrayList<>(told.getOrDefault(promise, Set.of()));
            longestFirst.sort(Comparator.comparing(String::length).reversed());
            for (String words : longestFirst) {
                check.due("promise " + promise + " says: " + words, left.contains(words), true);
                left = left.replace(words, "");
            }
            check.due("promise " + promise + ": words without a test", left.replaceAll("[\\s.,;:]", ""), "");
        }
    }

    private static String terms(String all) {
        return section(all, "## What it is") + section(all, "## Terms");
    }

    /** The text under a heading, without the call's own line of the face. */
    private static String section(String all, String heading) {
        int from = all.indexOf(heading);
        if (from < 0) {
            return heading + " is missing";
        }
        int start = all.indexOf('\n', from);
        int end = all.indexOf("\n## ", start);
        return all.substring(start, end < 0 ? all.length() : end).replaceAll("`[^`]*`", "");
    }
}
