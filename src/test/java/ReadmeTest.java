import java.io.IOException;
import java.lang.reflect.Method;
import java.nio.file.Files;
import java.nio.file.Path;
import java.util.ArrayList;
import java.util.List;
import java.util.regex.Matcher;
import java.util.regex.Pattern;

/** That the calls which README.md shows answer what it says, and that it tells of each call with its parameters. */
public final class ReadmeTest {
    private static final Pattern SHOWN = Pattern.compile("x\\.(\\w+)\\((.*)\\); +// (true|false|-?\\d+)(: .*)?");
    private static final Pattern TOLD = Pattern.compile("`(\\w+)\\(([^()`]*)\\)`");

    public static void main(String[] args) throws IOException {
        Check.promise("README.md");
        List<String> lines = Files.readAllLines(Path.of("README.md"));
        shown(lines);
        told(lines);
        Check.finish();
    }

    private static void shown(List<String> lines) {
        Calls x = null;
        boolean java = false;
        int answers = 0;
        for (String line : lines) {
            if (line.startsWith("```")) {
                java = line.equals("```java");
            } else if (java && line.equals("CutInMay x = new CutInMay();")) {
                x = new Calls(new CutInMay());
            } else if (java) {
                Matcher call = SHOWN.matcher(line);
                Check.due("a call with its answer: " + line, x != null && call.matches(), true);
                if (x == null || !call.matches()) continue;
                Check.due(line, x.answer(call.group(1), numbers(call.group(2))), number(call.group(3)));
                answers++;
            }
        }
        Check.due("some calls are shown", answers > 0, true);
    }

    private static int[] numbers(String list) {
        if (list.isBlank()) return new int[0];
        String[] words = list.split(", ");
        int[] made = new int[words.length];
        for (int i = 0; i < words.length; i++) made[i] = number(words[i]);
        return made;
    }

    private static int number(String word) {
        if (word.equals("true") || word.equals("false")) return word.equals("true") ? 1 : 0;
        return word.startsWith("0x") ? Integer.parseUnsignedInt(word.substring(2), 16) : Integer.parseInt(word);
    }

    private static void told(List<String> lines) {
        List<String> told = new ArrayList<>();
        for (String line : lines) {
            Matcher call = TOLD.matcher(line);
            while (line.startsWith("| `") && call.find()) told.add(call.group(1) + " " + numberOf(call.group(2)));
        }
        List<String> due = new ArrayList<>();
        for (Method method : CutInMay.class.getMethods()) {
            if (method.getDeclaringClass() == CutInMay.class) due.add(method.getName() + " " + method.getParameterCount());
        }
        for (String call : due) Check.due("README.md tells of " + call, told.contains(call), true);
        for (String call : told) Check.due("README.md tells of a call that is: " + call, due.contains(call), true);
        Check.due("each once", told.size(), due.size());
    }

    private static int numberOf(String parameters) {
        return parameters.isBlank() ? 0 : parameters.split(",").length;
    }
}
