import java.io.IOException;
import java.nio.file.Files;
import java.nio.file.Path;
import java.util.Arrays;
import java.util.List;
import java.util.regex.Matcher;
import java.util.regex.Pattern;
import java.util.stream.Stream;

/**
 * Whether the words that the tests give for a promise stand in the document, among this promise's or the
 * terms', and whether no word of the promises and the terms is without a test.
 */
public final class SentencesTest {
    private static final Path DOCUMENT = Path.of("../shared/DOC.md"), TESTS = Path.of("src/test/java");
    private static final int PROMISES = 42, TERMS = 0;
    private static final Pattern QUOTED =
        Pattern.compile("Check\\.promise\\(\\s*(\\w+),\\s*(\"[^\"]*\"(?:\\s*\\+\\s*\"[^\"]*\")*)\\);");

    // The terms, then the promises by their numbers.
    private static final String[] words = new String[PROMISES + 1];
    private static final boolean[][] held = new boolean[PROMISES + 1][];

    public static void main(String[] args) throws IOException {
        readDocument(Files.readString(DOCUMENT));
        for (Path file : testFiles()) {
            readTests(file);
        }
        for (int number = 0; number <= PROMISES; number++) {
            String left = leftOf(number);
            holds((number == TERMS ? "the terms" : "promise " + number) + " without a test:" + left, left.isEmpty());
        }
        Check.end("SentencesTest");
    }

    private static void holds(String what, boolean is) {
        Check.due(what, is ? 1 : 0, 1);
    }

    private static List<Path> testFiles() throws IOException {
        try (Stream<Path> files = Files.list(TESTS)) {
            return files.filter(file -> file.toString().endsWith("Test.java")).sorted().toList();
        }
    }

    private static void readDocument(String document) {
        take(TERMS, between(document, "\n## Terms\n", "\n## Promise 1: ")
            .replaceAll("```(text)?", " ")
            .replaceAll("======== \\w+\\.?", " ")
            .replaceAll("Ahead of the calls [^:]* the interface says: ---- \\d ", " ")
            // The names of the interface's parts, that tell nothing.
            .replaceAll("(?m)^ *(rows, texts, towns|deeds|rounds|by turns|chances, lots|what is told)\\.$", " "));
        for (int number = 1; number <= PROMISES; number++) {
            String end = number < PROMISES ? "\n## Promise " + (number + 1) + ": " : "\n## Not promised";
            String promise = between(document, "\n## Promise " + number + ": ", end);
            take(number, promise.substring(promise.indexOf("`: ") + 3));
        }
    }

    private static void take(int number, String text) {
        words[number] = text.replaceAll("\\s+", " ");
        held[number] = new boolean[words[number].length()];
    }

    private static String between(String text, String from, String to) {
        int start = text.indexOf(from);
        int end = text.indexOf(to, Math.max(0, start));
        holds("the document has \"" + from.strip() + "\", then \"" + to.strip() + "\"", start >= 0 && end >= 0);
        return start < 0 || end < 0 ? "`: " : text.substring(start + from.length(), end);
    }

    private static void readTests(Path file) throws IOException {
        Matcher quoted = QUOTED.matcher(Files.readString(file));
        while (quoted.find()) {
            String said = quoted.group(2).replaceAll("\"\\s*\\+\\s*\"", "").replace("\"", "");
            String where = file.getFileName() + ": promise " + quoted.group(1) + ", \"" + said + "\"";
            boolean numbered = quoted.group(1).matches("[1-9]|[123][0-9]|4[012]");
            holds(where + " has a number", numbered);
            if (numbered) {
                int number = Integer.parseInt(quoted.group(1));
                boolean its = words[number].contains(said);
                holds(where + " stands in the document", its || words[TERMS].contains(said));
                hold(its ? number : TERMS, said);
            }
        }
    }

    private static void hold(int number, String said) {
        for (int at = words[number].indexOf(said); at >= 0; at = words[number].indexOf(said, at + 1)) {
            Arrays.fill(held[number], at, at + said.length(), true);
        }
    }

    /** What no test holds, but for the signs between. */
    private static String leftOf(int number) {
        StringBuilder left = new StringBuilder();
        for (int at = 0; at < held[number].length; at++) {
            left.append(held[number][at] ? '|' : words[number].charAt(at));
        }
        String rest = left.toString().replaceAll("\\|+", "|");
        return rest.matches("[^A-Za-z0-9]*") ? "" : " " + rest;
    }
}
