import java.io.IOException;
import java.nio.file.Files;
import java.nio.file.Path;
import java.util.Arrays;
import java.util.regex.Matcher;
import java.util.regex.Pattern;

/** The examples of README.md give the answers that it tells. */
public final class ReadmeTest {
    private static final Path README = Path.of("README.md");
    private static final Pattern CALL = Pattern.compile("^pipe\\.(\\w+)\\((.*)\\); +// = (-?\\w+)");
    private static final Checks checks = new Checks();

    public static void main(String[] args) throws IOException {
        PixelPipe pipe = null;
        int examples = 0;
        for (String line : Files.readAllLines(README)) {
            Matcher call = CALL.matcher(line);
            if (line.equals("PixelPipe pipe = new PixelPipe();")) {
                pipe = new PixelPipe();
                examples++;
            } else if (call.find()) {
                checks.due(line, callOf(call).on(pipe), answerOf(call));
            } else {
                checks.due("a call without an answer: " + line, line.startsWith("pipe."), false);
            }
        }
        checks.due("examples in README.md", examples, 3);
        checks.end();
    }

    private static Call callOf(Matcher call) {
        int[] numbers = Arrays.stream(call.group(2).split(", "))
                .filter(number -> !number.isEmpty())
                .mapToInt(Integer::parseInt)
                .toArray();
        return new Call(call.group(1), numbers);
    }

    private static int answerOf(Matcher call) {
        String answer = call.group(3);
        return answer.equals("true") ? 1 : answer.equals("false") ? 0 : Integer.parseInt(answer);
    }
}
