import java.io.ByteArrayOutputStream;
import java.io.IOException;
import java.io.PrintStream;
import java.nio.file.Files;
import java.nio.file.Path;
import java.util.List;
import java.util.regex.Matcher;
import java.util.regex.Pattern;

/** README.md shows Example as it is, and each answer in it is the one written behind the call. */
public final class ExampleTest {
    private static final Pattern ANSWER = Pattern.compile("System\\.out\\.println\\(.*\\); *// (-?[0-9]+)\\b.*");

    public static void main(String[] args) throws IOException {
        String source = Files.readString(Path.of("src/test/java/Example.java"));
        String shown = Files.readString(Path.of("README.md"));
        Due.is("README.md shows the example", shown.contains("```java\n" + source + "```\n"));
        List<String> said = said();
        int at = 0;
        for (String line : source.split("\n")) {
            if (line.contains("println")) {
                Matcher answer = ANSWER.matcher(line.strip());
                Due.is("an answer is written in" + line, answer.matches());
                Due.is(line, at < said.size() && said.get(at).equals(answer.group(1)));
                at++;
            }
        }
        Due.is("as many answers as calls", at, said.size());
        Due.close("ExampleTest");
    }

    private static List<String> said() {
        PrintStream usual = System.out;
        ByteArrayOutputStream kept = new ByteArrayOutputStream();
        System.setOut(new PrintStream(kept, true));
        Example.main(new String[0]);
        System.setOut(usual);
        return kept.toString().lines().toList();
    }
}
