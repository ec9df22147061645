import java.io.IOException;
import java.nio.file.DirectoryStream;
import java.nio.file.Files;
import java.nio.file.Path;
import java.util.regex.Matcher;
import java.util.regex.Pattern;

/** What README.md says is so: its example answers as it tells, its text has no fault, its table has every test. */
public final class ReadmeTest {
    private static final Pattern CALL = Pattern.compile("x\\.(\\w+)\\(([^)]*)\\);\\s*//\\s*(.*)");
    private static final Pattern ANSWER = Pattern.compile("(-?\\d+)[:;].*");
    private static final Pattern TEXT = Pattern.compile("`(sections [^`]*)`");

    public static void main(String[] args) throws IOException {
        String readme = Files.readString(Path.of("README.md"));
        example(readme);
        text(readme);
        table(readme);
        Script.end();
    }

    private static void example(String readme) {
        Script s = new Script("README, the example");
        Matcher call = CALL.matcher(readme);
        int answers = 0;
        while (call.find()) {
            int got = s.ask(call.group(1), call.group(2));
            Matcher answer = ANSWER.matcher(call.group(3));
            if (answer.matches()) {
                answers++;
                Script.due("README", call.group(), got, Integer.parseInt(answer.group(1)));
            }
        }
        Script.due("README", "answers in the example", answers, 4);
        s.ordered(0, 1, 2, 3);
    }

    private static void text(String readme) {
        Matcher text = TEXT.matcher(readme);
        Script.due("README", "a text as an example", text.find() ? 1 : 0, 1);
        new Script("README, the text").told(text.group(1), text.group(1).split(";").length).ordered(2, 0, 1, 3, 4)
                .run("term(0, 0) = 3; section(0, 2) = 3; section(1, 8) = 1");
    }

    private static void table(String readme) throws IOException {
        try (DirectoryStream<Path> tests = Files.newDirectoryStream(Path.of("src/test/java"), "*Test.java")) {
            for (Path test : tests) {
                String name = test.getFileName().toString().replace(".java", "");
                Script.due("README", name + " in the table", readme.contains("| `" + name + "` |") ? 1 : 0, 1);
            }
        }
    }
}
