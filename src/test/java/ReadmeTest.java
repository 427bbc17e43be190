import java.io.IOException;
import java.lang.reflect.Method;
import java.nio.file.Files;
import java.nio.file.Path;
import java.util.regex.Matcher;
import java.util.regex.Pattern;

/** README.md tells the truth: its example answers what stands behind each call, and it names every method. */
public final class ReadmeTest {
    private static final Pattern CALL = Pattern.compile("(?m)^x\\.(\\w+)\\((.*)\\); +// ([-\\w.]+)");

    private static final Check CHECK = new Check();

    public static void main(String[] args) throws IOException, ReflectiveOperationException {
        String text = Files.readString(Path.of("README.md"));
        exampleAnswersAsItSays(text);
        everyMethodIsNamed(text);
        CHECK.end();
    }

    private static void exampleAnswersAsItSays(String text) throws ReflectiveOperationException {
        RootChunks x = new RootChunks();
        int calls = 0;
        for (Matcher call = CALL.matcher(text); call.find(); calls++) {
            String want = call.group(3).replace("RootChunks.NO_SUCH", String.valueOf(RootChunks.NO_SUCH));
            CHECK.due("README: " + call.group(), answerOf(x, call.group(1), call.group(2)), Integer.decode(want));
        }
        CHECK.holds("README: the example has calls", calls > 0);
    }

    private static void everyMethodIsNamed(String text) {
        for (Method method : RootChunks.class.getMethods()) {
            if (method.getDeclaringClass() == RootChunks.class) {
                CHECK.holds("README names " + method.getName(), text.contains("`" + method.getName() + "("));
            }
        }
    }

    private static int answerOf(RootChunks x, String name, String arguments) throws ReflectiveOperationException {
        for (Method method : RootChunks.class.getMethods()) {
            if (method.getName().equals(name)) {
                String[] words = arguments.isEmpty() ? new String[0] : arguments.split(", ");
                Object[] given = new Object[words.length];
                for (int i = 0; i < words.length; i++) {
                    long number = Long.decode(words[i]);
                    // Not by ?:, which would make a long of both.
                    given[i] = number;
                    if (method.getParameterTypes()[i] == int.class) {
                        given[i] = (int) number;
                    }
                }
                return (int) method.invoke(x, given);
            }
        }
        throw new IllegalStateException(name);
    }
}
