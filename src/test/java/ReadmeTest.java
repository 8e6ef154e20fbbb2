import java.io.IOException;
import java.nio.file.DirectoryStream;
import java.nio.file.Files;
import java.nio.file.Path;
import java.util.HashMap;
import java.util.Map;
import java.util.regex.Matcher;
import java.util.regex.Pattern;

/** That README.md tells the truth: its calls answer what stands behind them, and no call or test is missing. */
public final class ReadmeTest {
    private static final Pattern LINE =
        Pattern.compile("(?:(?:int|boolean) (\\w+) = )?x\\.(\\w+\\([^()]*\\)); +// (-?\\d+|true|false)(?::.*)?");
    private static final String FIRST_LINE = "WheelStands x = new WheelStands();";

    private ReadmeTest() {
    }

    public static void main(String[] args) throws IOException {
        Path root = Path.of(args.length > 1 ? args[1] : ".");
        String text = Files.readString(root.resolve("README.md"));
        int start = text.indexOf("```java") + "```java".length();
        example(text.substring(start, text.indexOf("```", start)));
        for (String call : Call.NAMES) {
            Due.yes("README.md names " + call, text.contains("`" + call + "`"));
        }
        Due.yes("README.md names .ci/run", text.contains(".ci/run"));
        try (DirectoryStream<Path> tests = Files.newDirectoryStream(root.resolve("src/test/java"), "*Test.java")) {
            for (Path test : tests) {
                String name = test.getFileName().toString().replace(".java", "");
                Due.yes("README.md names " + name, text.contains("`" + name + "`"));
            }
        }
        Due.close("ReadmeTest");
    }

    private static void example(String code) {
        Asked x = new Asked();
        Map<String, Long> named = new HashMap<>();
        int lines = 0;
        for (String line : code.strip().split("\n")) {
            Matcher m = LINE.matcher(line);
            Due.yes("a line that can be asked: " + line, lines == 0 ? line.equals(FIRST_LINE) : m.matches());
            lines++;
            if (m.matches()) {
                long answer = x.ask(Call.of(withNumbers(m.group(2), named)));
                Due.is("README.md: " + m.group(2), answer, due(m.group(3)));
                if (m.group(1) != null) {
                    named.put(m.group(1), answer);
                }
            }
        }
        Due.yes("the example has some lines", lines > 15);
    }

    private static long due(String word) {
        return word.equals("true") ? 1 : word.equals("false") ? 0 : Long.parseLong(word);
    }

    private static String withNumbers(String call, Map<String, Long> named) {
        String text = call.replace("WheelStands.", "");
        for (String name : named.keySet()) {
            text = text.replaceAll("\\b" + name + "\\b", "" + named.get(name));
        }
        return text;
    }
}
