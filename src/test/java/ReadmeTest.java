import java.io.IOException;
import java.lang.reflect.Method;
import java.nio.file.Files;
import java.nio.file.Path;
import java.util.Arrays;
import java.util.regex.Matcher;
import java.util.regex.Pattern;

/** The calls in README.md, one behind another on one object, answer as it says. */
public final class ReadmeTest {
    private static final Pattern EXAMPLE = Pattern.compile("(?s)```java\n(.*?)```");
    private static final Pattern SETUP = Pattern.compile("(?s)HatDraw h = new HatDraw\\(\\);\n"
        + "String mates = \"([^\"]*)\";\n"
        + "h\\.text\\(0, mates\\.length\\(\\)\\);\n"
        + "for \\(int i = 0; i < mates\\.length\\(\\); i\\+\\+\\) \\{\n"
        + "    h\\.put\\(0, i, mates\\.charAt\\(i\\)\\);\n"
        + "\\}\n");
    private static final Pattern CALL = Pattern.compile("h\\.(\\w+)\\(([-0-9, ]*)\\); +// (-?\\d+)(:.*)?");

    public static void main(String[] args) throws IOException, ReflectiveOperationException {
        StringBuilder calls = new StringBuilder();
        Matcher example = EXAMPLE.matcher(Files.readString(Path.of("README.md")));
        while (example.find()) {
            calls.append(example.group(1));
        }
        Matcher setup = SETUP.matcher(calls);
        boolean starts = setup.lookingAt();
        Due.is("README.md: the calls begin with an office", starts ? 1 : 0, 1);
        if (starts) {
            HatDraw h = new HatDraw();
            Due.write(h, 0, setup.group(1));
            run(h, calls.substring(setup.end()));
        }
        Due.end();
    }

    private static void run(HatDraw h, String calls) throws ReflectiveOperationException {
        for (String line : calls.split("\n")) {
            Matcher call = CALL.matcher(line);
            boolean readable = call.matches();
            Due.is("README.md: a call and its answer: " + line, readable ? 1 : 0, 1);
            if (readable) {
                Due.is("README.md: " + line, answer(h, call.group(1), numbers(call.group(2))), Long.parseLong(call.group(3)));
            }
        }
    }

    private static Object[] numbers(String list) {
        if (list.isBlank()) {
            return new Object[0];
        }
        String[] words = list.split(", ");
        Object[] numbers = new Object[words.length];
        for (int i = 0; i < words.length; i++) {
            numbers[i] = Integer.valueOf(words[i]);
        }
        return numbers;
    }

    private static long answer(HatDraw h, String name, Object[] numbers) throws ReflectiveOperationException {
        Class<?>[] ints = new Class<?>[numbers.length];
        Arrays.fill(ints, int.class);
        Method method = HatDraw.class.getMethod(name, ints);
        return ((Number) method.invoke(h, numbers)).longValue();
    }
}
