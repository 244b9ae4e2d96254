import java.io.IOException;
import java.lang.reflect.Method;
import java.nio.file.Files;
import java.nio.file.Path;
import java.util.regex.Matcher;
import java.util.regex.Pattern;

/** What README.md tells of the use of the class: each call there answers what stands behind it. */
public final class ReadmeTest {
    private static final Pattern FED = Pattern.compile("feed\\(x, \"(.*)\"\\);");
    private static final Pattern CALL = Pattern.compile("x\\.(\\w+)\\((.*)\\);(?: +// (-?\\d+))?");

    public static void main(String[] args) throws IOException, ReflectiveOperationException {
        TokenFrames x = new TokenFrames();
        int answers = 0;
        for (String line : Files.readAllLines(Path.of("README.md"))) {
            Matcher fed = FED.matcher(line);
            Matcher call = CALL.matcher(line);
            if (fed.matches()) {
                Check.feed(x, fed.group(1));
            } else if (call.matches()) {
                Object got = answer(x, call.group(1), call.group(2));
                if (call.group(3) != null) {
                    Check.same("README.md: " + line, "" + got, call.group(3));
                    answers++;
                }
            }
        }
        Check.equal("whether README.md tells answers", answers > 0 ? 1 : 0, 1);
        Check.end();
    }

    private static Object answer(TokenFrames x, String name, String told) throws ReflectiveOperationException {
        String[] words = told.isEmpty() ? new String[0] : told.split(", ");
        Object[] numbers = new Object[words.length];
        for (int i = 0; i < words.length; i++) {
            numbers[i] = Integer.decode(words[i]);
        }
        for (Method method : TokenFrames.class.getMethods()) {
            if (method.getName().equals(name) && method.getParameterCount() == numbers.length) {
                return method.invoke(x, numbers);
            }
        }
        throw new NoSuchMethodException(name);
    }
}
