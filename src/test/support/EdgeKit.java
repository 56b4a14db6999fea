import java.io.IOException;
import java.nio.file.Files;
import java.nio.file.Path;
import java.util.LinkedHashMap;
import java.util.Map;

/**
 * Ties tests to sentences of the document: an edge begins with the words that it tests, the answers
 * due behind it are its own. What a program tests must be quoted whole, so that no sentence is left
 * without a test.
 */
final class EdgeKit {
    /** Sections of the document that are no promise: promises go by their number. */
    static final int WHOLE = 100;
    static final int TEXTS = 101;
    static final int DEEDS = 102;
    static final int ASKED = 103;

    private static final Map<Integer, String> SECTIONS = new LinkedHashMap<>();
    private static final Map<Integer, boolean[]> QUOTED = new LinkedHashMap<>();
    private static String document = null;
    private static String title = "";
    private static int checkedAhead = 0;

    private EdgeKit() {
    }

    /** Which sections a program tests, each whole. */
    static void tests(int... sections) {
        document = readDocument();
        for (int section : sections) {
            String words = document == null ? "" : wordsOf(section);
            SECTIONS.put(section, words);
            QUOTED.put(section, new boolean[words.length()]);
        }
    }

    static void edge(int section, String quote) {
        endEdge();
        title = "[" + nameOf(section) + ": " + quote + "] ";
        checkedAhead = TestKit.checked;
        if (document != null) {
            markQuoted(section, quote);
        }
    }

    static void due(String call, long got, long want) {
        TestKit.due(title + call, got, want);
    }

    static void due(String call, boolean got, boolean want) {
        TestKit.due(title + call, got, want);
    }

    static void finish(String name) {
        endEdge();
        title = "";
        for (int section : SECTIONS.keySet()) {
            tellUnquoted(section);
        }
        TestKit.finish(name);
    }

    private static void endEdge() {
        if (!title.isEmpty() && TestKit.checked == checkedAhead) {
            TestKit.due(title + "has answers of its own", false, true);
        }
    }

    private static String nameOf(int section) {
        return section < WHOLE ? "promise " + section : section == WHOLE ? "what it is" : "terms " + (section - WHOLE);
    }

    private static String readDocument() {
        Path file = Path.of(System.getProperty("project.home", "."), "..", "shared", "DOC.md");
        if (!Files.isReadable(file)) {
            System.out.println("no document at " + file + ": quotes are not looked up");
            return null;
        }
        try {
            return Files.readString(file);
        } catch (IOException e) {
            System.out.println("the document can't be read: quotes are not looked up");
            return null;
        }
    }

    private static String wordsOf(int section) {
        switch (section) {
            case WHOLE:
                return between("An object is used", "## The public face");
            case TEXTS:
                return between("TOKENS of all texts", "==== 2.");
            case DEEDS:
                return between("PRICES are told in HALVES", "==== 3.");
            case ASKED:
                return between("PROOF, the first of these", "## Promise 1:");
            default:
                String promise = between("## Promise " + section + ":", section == 47 ? "## Not promised" : "## Promise " + (section + 1) + ":");
                return promise.substring(promise.indexOf("`: ") + 3);
        }
    }

    private static String between(String first, String behind) {
        int from = document.indexOf(first);
        int to = document.indexOf(behind, Math.max(0, from));
        if (from < 0 || to < 0) {
            TestKit.due("the document has '" + first + "' and '" + behind + "'", false, true);
            return "`: ";
        }
        return plain(document.substring(from, to).replaceAll("```(text)?", " "));
    }

    private static String plain(String text) {
        return text.replaceAll("\\s+", " ").strip();
    }

    private static void markQuoted(int section, String quote) {
        String words = SECTIONS.get(section);
        boolean[] quoted = QUOTED.get(section);
        String wanted = plain(quote);
        int at = words == null ? -1 : words.indexOf(wanted);
        if (at < 0) {
            TestKit.due(title + "stands in the document", false, true);
            return;
        }
        // words that stand there twice are quoted one by one
        while (isQuoted(quoted, at, wanted.length()) && words.indexOf(wanted, at + 1) >= 0) {
            at = words.indexOf(wanted, at + 1);
        }
        for (int i = at; i < at + wanted.length(); i++) {
            quoted[i] = true;
        }
    }

    private static boolean isQuoted(boolean[] quoted, int at, int length) {
        for (int i = at; i < at + length; i++) {
            if (!quoted[i]) {
                return false;
            }
        }
        return true;
    }

    private static void tellUnquoted(int section) {
        String words = SECTIONS.get(section);
        boolean[] quoted = QUOTED.get(section);
        StringBuilder left = new StringBuilder();
        for (int i = 0; i < words.length(); i++) {
            boolean counts = !quoted[i] && Character.isLetterOrDigit(words.charAt(i));
            left.append(counts ? words.charAt(i) : ' ');
        }
        TestKit.due(nameOf(section) + " has words without a test: " + plain(left.toString()), left.toString().isBlank(), true);
    }
}
