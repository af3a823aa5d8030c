import java.io.IOException;
import java.nio.file.DirectoryStream;
import java.nio.file.Files;
import java.nio.file.Path;
import java.util.ArrayList;
import java.util.List;
import java.util.regex.Matcher;
import java.util.regex.Pattern;

/**
 * Every sentence of the document's terms and promises has a test of its own: what the tests quote with sentence("..")
 * stands in the document, under the heading that the test's file is for, and leaves no word of it out.
 */
public final class SentencesTest {
    private static final Path DOCUMENT = Path.of("../shared/DOC.md");
    private static final Path TESTS = Path.of("src/test/java");
    private static final Pattern SENTENCE =
        Pattern.compile("\\.sentence\\(((?:\\s*\\+?\\s*\"(?:[^\"\\\\]|\\\\.)*\")+)\\)");
    private static final Due DUE = new Due();

    public static void main(String[] args) throws IOException {
        if (!Files.isReadable(DOCUMENT)) {
            System.out.println("the document is not here, so nothing can be held against it");
            return;
        }
        String document = Files.readString(DOCUMENT);
        for (int promise = 1; promise <= 12; promise++) {
            String text = section(document, "Promise " + promise + ": [^\n]*");
            // The method's head stands before its first sentence.
            isQuoted(text.replaceFirst("`[^`]*`:", ""), String.format("Promise%02d*Test.java", promise));
        }
        String terms = section(document, "Terms");
        isQuoted(terms + " " + section(document, "What it is").replaceFirst("(?s).*(?=An object is used)", "")
            .replace("; what later calls answer is free.", ""), "Terms*Test.java");
        DUE.end();
    }

    private static String section(String document, String heading) {
        Matcher found = Pattern.compile("(?s)\n## " + heading + "\n(.*?)(\n## |$)").matcher(document);
        String text = found.find() ? found.group(1) : "";
        DUE.is("there is a section " + heading, 1, text.isEmpty() ? 0 : 1);
        return oneLine(text.replace("```text", "").replace("```", ""));
    }

    private static String oneLine(String text) {
        return text.replaceAll("\\s+", " ").trim();
    }

    private static void isQuoted(String text, String files) throws IOException {
        String rest = text;
        for (String quote : quotes(files)) {
            DUE.is(files + " quotes the document: " + quote, 1, text.contains(quote) ? 1 : 0);
            rest = rest.replace(quote, "|");
        }
        // What stands between the sentences, and has no limit of its own.
        rest = rest.replaceAll("\\b(or|and)\\b", "|");
        DUE.is(files + " leaves out", "", rest.replaceAll("[|\\s,;:.()]+", " ").trim());
    }

    private static List<String> quotes(String files) throws IOException {
        List<String> found = new ArrayList<>();
        try (DirectoryStream<Path> paths = Files.newDirectoryStream(TESTS, files)) {
            for (Path path : paths) {
                Matcher sentence = SENTENCE.matcher(Files.readString(path));
                while (sentence.find()) {
                    found.add(sentence.group(1).replaceAll("\"\\s*\\+\\s*\"", "").replaceAll("^\\s*\"|\"\\s*$", "")
                        .replace("\\\"", "\""));
                }
            }
        }
        DUE.is(files + " has sentences", 1, found.isEmpty() ? 0 : 1);
        return found;
    }
}
