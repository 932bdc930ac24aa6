import java.io.IOException;
import java.nio.file.Files;
import java.nio.file.Path;
import java.util.List;
import java.util.regex.Matcher;
import java.util.regex.Pattern;

/** README.md: the calls in its example, on one object, answer what is written beside them. */
final class ReadmeTest {
    private static final Pattern CALL = Pattern.compile(
            "x\\.(\\w+)\\((.*?)\\); +// (-?\\d+|true|false|\"[^\"]*\"|Ill\\w+|Ind\\w+)(?= |:|$).*");

    public static void main(String[] args) throws IOException {
        String text = Files.readString(Path.of("README.md"));
        String example = text.substring(text.indexOf("```java") + 7, text.lastIndexOf("```"));
        TimeStore x = new TimeStore();
        int calls = 0;
        for (String line : example.strip().split("\n")) {
            if (!line.isBlank() && !line.startsWith("//") && !line.equals("TimeStore x = new TimeStore();")) {
                calls += call(x, line);
            }
        }
        Check.due(61, calls > 30, true);
        Check.finish();
    }

    private static int call(TimeStore x, String line) {
        Matcher matcher = CALL.matcher(line);
        if (!matcher.matches()) {
            Check.due(61, line, "x.name(numbers);  // the answer");
            return 0;
        }
        String arguments = matcher.group(2).replace(",", "");
        List<Calls.Call> calls = Calls.read(matcher.group(1) + " " + arguments);
        String due = matcher.group(3).replace("IllegalStateException", "state")
                .replace("IllegalArgumentException", "argument").replace("IndexOutOfBoundsException", "index");
        Check.due(61, Calls.answer(x, calls.get(0)) + " at " + line, due + " at " + line);
        return calls.size();
    }
}
