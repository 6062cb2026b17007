import java.lang.reflect.Method;
import java.nio.file.Files;
import java.nio.file.Path;
import java.util.Arrays;
import java.util.List;
import java.util.regex.Matcher;
import java.util.regex.Pattern;

/** The example of README.md answers what is written behind each of its calls. */
public final class ReadmeTest {
    private static final Pattern MAKING =
        Pattern.compile("ForwardHeap heap = new ForwardHeap\\((\\d+), (\\d+)\\);.*");
    private static final Pattern CALL = Pattern.compile("heap\\.(\\w+)\\(([^)]*)\\); *// (.*)");
    private static final Pattern ANSWER = Pattern.compile("(-?\\d+|true|false)(:.*)?");
    private static final Check CHECK = new Check();

    public static void main(String[] args) throws Exception {
        List<String> lines = Files.readAllLines(Path.of("README.md"));
        int from = lines.indexOf("```java") + 1;
        int to = from + lines.subList(from, lines.size()).indexOf("```");
        Matcher making = matched(MAKING, lines.get(from));
        ForwardHeap heap = new ForwardHeap(Integer.parseInt(making.group(1)), Integer.parseInt(making.group(2)));
        for (String line : lines.subList(from + 1, to)) {
            run(heap, line);
        }
        CHECK.end();
    }

    private static void run(ForwardHeap heap, String line) throws Exception {
        Matcher call = matched(CALL, line);
        Object[] arguments = Arrays.stream(call.group(2).split(", ")).filter(text -> !text.isEmpty())
            .map(Integer::valueOf).toArray();
        Class<?>[] types = new Class<?>[arguments.length];
        Arrays.fill(types, int.class);
        Method method = ForwardHeap.class.getMethod(call.group(1), types);
        Object answer = method.invoke(heap, arguments);
        if (method.getReturnType() != void.class) {
            String want = matched(ANSWER, call.group(3)).group(1);
            CHECK.due(line + " | which answers " + answer + ":", want.equals(answer.toString()), true);
        }
    }

    private static Matcher matched(Pattern pattern, String line) {
        Matcher matcher = pattern.matcher(line);
        if (!matcher.matches()) {
            throw new IllegalStateException("README.md has a line of another form: " + line);
        }
        return matcher;
    }
}
