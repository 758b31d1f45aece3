import java.io.IOException;
import java.lang.reflect.Method;
import java.lang.reflect.Modifier;
import java.nio.file.Files;
import java.nio.file.Path;
import java.util.Arrays;
import java.util.regex.Matcher;
import java.util.regex.Pattern;

/** The session that README.md shows answers what it says there. */
public final class ReadmeTest {
    private static final Pattern CALL = Pattern.compile("x\\.(\\w+)\\(([^)]*)\\);\\s*// (-?\\w+).*");
    private static final Due due = new Due("readme");

    public static void main(String[] args) throws IOException {
        String text = Files.readString(Path.of("README.md"));
        session(text);
        for (Method m : PumpHouse.class.getDeclaredMethods()) {
            if (Modifier.isPublic(m.getModifiers())) {
                due.holds("README.md names " + m.getName(), text.contains("`" + m.getName() + "("));
            }
        }
        due.holds("README.md names .ci/run", text.contains("`.ci/run`"));
        due.finish();
    }

    private static void session(String text) {
        PumpHouse x = new PumpHouse();
        int calls = 0;
        for (String line : text.split("\n")) {
            Matcher call = CALL.matcher(line);
            if (call.matches()) {
                calls++;
                int[] numbers = Arrays.stream(call.group(2).split(", ")).filter(word -> !word.isEmpty())
                    .mapToInt(Run::number).toArray();
                due.is(line, Run.answerOf(x, call.group(1), numbers), Run.number(call.group(3)));
            } else {
                due.holds("this line tells an answer: " + line, !line.startsWith("x."));
            }
        }
        due.holds("README.md shows calls", calls > 0);
    }
}
