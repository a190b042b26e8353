import java.io.IOException;
import java.nio.file.DirectoryStream;
import java.nio.file.Files;
import java.nio.file.Path;
import java.util.regex.Matcher;
import java.util.regex.Pattern;

/**
 * No test, but a look at the tests: which words of the document no test goes by, and by which words
 * of a test the document doesn't go (any more). Run it in the project's own directory.
 */
public final class Unquoted {
    private static String flat(String text) {
        return text.replaceAll("\\s+", " ").trim();
    }

    private static void strike(StringBuilder document, String whole, String quote) {
        int at = whole.indexOf(quote);
        if (at < 0) {
            System.out.println("not in the document: " + quote);
        }
        while (at >= 0) {
            for (int i = at; i < at + quote.length(); i++) {
                document.setCharAt(i, '\u0000');
            }
            at = whole.indexOf(quote, at + 1);
        }
    }

    public static void main(String[] args) throws IOException {
        String whole = flat(Files.readString(Path.of("../shared/DOC.md")).replace("```text", "").replace("```", ""));
        StringBuilder document = new StringBuilder(whole);
        Pattern sentence = Pattern.compile("Sentences\\.sentence\\(((?:\"(?:[^\"\\\\]|\\\\.)*\"\\s*\\+?\\s*)+)\\)");
        Pattern piece = Pattern.compile("\"((?:[^\"\\\\]|\\\\.)*)\"");
        try (DirectoryStream<Path> tests = Files.newDirectoryStream(Path.of("src/test/java"), "*BoundsTest.java")) {
            for (Path test : tests) {
                Matcher m = sentence.matcher(Files.readString(test));
                while (m.find()) {
                    StringBuilder quote = new StringBuilder();
                    Matcher p = piece.matcher(m.group(1));
                    while (p.find()) {
                        quote.append(p.group(1));
                    }
                    strike(document, whole, flat(quote.toString()));
                }
            }
        }
        for (String rest : document.toString().split("\u0000+")) {
            if (rest.trim().length() > 3) {
                System.out.println("without a test: " + rest.trim());
            }
        }
    }
}
