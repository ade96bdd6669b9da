import java.io.IOException;
import java.nio.file.DirectoryStream;
import java.nio.file.Files;
import java.nio.file.Path;
import java.util.LinkedHashMap;
import java.util.Map;
import java.util.regex.Matcher;
import java.util.regex.Pattern;

/** That each word of the document's terms and promises is told by a test as what it is about, and each such test quotes the document. */
public final class DocTest {
    private static final Pattern SAYS = Pattern.compile("Check\\.says\\(\"(\\w+)\",\\s*((?:\"[^\"]*\"\\s*\\+?\\s*)+)\\)");

    public static void main(String[] args) throws IOException {
        Path document = Path.of("../shared/DOC.md");
        if (!Files.exists(document)) {
            System.out.println("there is no document to look at");
            return;
        }
        Map<String, String> parts = partsOf(Files.readString(document));
        Check.promise("the document");
        Check.due("its parts", parts.size(), 5 + 48);
        Map<String, boolean[]> quoted = new LinkedHashMap<>();
        for (String part : parts.keySet()) quoted.put(part, new boolean[parts.get(part).length()]);
        try (DirectoryStream<Path> tests = Files.newDirectoryStream(Path.of("src/test/java"), "*.java")) {
            for (Path test : tests) mark(Files.readString(test), test.getFileName().toString(), parts, quoted);
        }
        for (String part : parts.keySet()) allQuoted(part, parts.get(part), quoted.get(part));
        Check.finish();
    }

    /** The terms' parts I to V by their numbers, and what each promise says behind its signature. */
    private static Map<String, String> partsOf(String document) {
        String plain = document.replaceAll("```(text|java)?", " ").replaceAll("\\s+", " ");
        Map<String, String> parts = new LinkedHashMap<>();
        String terms = plain.substring(plain.indexOf("## Terms") + 8, plain.indexOf("## Promise 1:"));
        String[] numbers = {"I", "II", "III", "IV", "V"};
        String[] each = terms.split("==== \\w+\\.");
        for (int i = 0; i < each.length; i++) parts.put(numbers[i], each[i]);
        Matcher promise = Pattern.compile("## Promise (\\d+): \\w+[^`]*`[^`]*`: (.*?)(?= ## )").matcher(plain);
        while (promise.find()) parts.put(promise.group(1), promise.group(2));
        return parts;
    }

    private static void mark(String source, String test, Map<String, String> parts, Map<String, boolean[]> quoted) {
        Matcher says = SAYS.matcher(source);
        while (says.find()) {
            String part = parts.getOrDefault(says.group(1), "");
            String words = says.group(2).replaceAll("\"\\s*\\+\\s*\"", "").replaceAll("\\s*$", "");
            words = words.substring(1, words.length() - 1);
            int at = part.indexOf(words);
            String quote = test + " quotes " + says.group(1) + ": '" + words + "'";
            Check.due(quote, at >= 0, true);
            Check.due(quote + " from one place", part.indexOf(words, at + 1), -1);
            for (int i = at; at >= 0 && i < at + words.length(); i++) quoted.get(says.group(1))[i] = true;
        }
    }

    private static void allQuoted(String part, String text, boolean[] quoted) {
        int from = -1;
        for (int i = 0; i <= text.length(); i++) {
            boolean open = i < text.length() && !quoted[i] && Character.isLetterOrDigit(text.charAt(i));
            if (open && from < 0) {
                from = i;
            } else if (from >= 0 && (i == text.length() || quoted[i])) {
                Check.due(part + ": no test is about '" + text.substring(from, i) + "'", 0, 1);
                from = -1;
            }
        }
        Check.due(part + " has words", text.isBlank(), false);
    }
}
