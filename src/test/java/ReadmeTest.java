import java.io.IOException;
import java.lang.reflect.Method;
import java.nio.file.Files;
import java.nio.file.Path;
import java.util.regex.Matcher;
import java.util.regex.Pattern;

/** The examples of README.md: each line is a new object, or a call with its answer, and all calls are named. */
public final class ReadmeTest {
    private static final Pattern BLOCK = Pattern.compile("(?s)```java\n(.*?)```");
    private static final Pattern CALL = Pattern.compile("post\\.(\\w+)\\((.*?)\\); +// (-?\\d+)(: .*)?");

    private static int wrong = 0;
    private static int calls = 0;

    private static void due(String what, boolean holds) {
        if (!holds) {
            wrong++;
            System.out.println(what);
        }
    }

    private static int ask(ShortPost post, String name, String arguments) throws ReflectiveOperationException {
        String[] told = arguments.isEmpty() ? new String[0] : arguments.split(", ");
        Class<?>[] types = new Class<?>[told.length];
        Object[] values = new Object[told.length];
        for (int i = 0; i < told.length; i++) {
            types[i] = int.class;
            values[i] = told[i].equals("ShortPost.NONE") ? ShortPost.NONE : Integer.decode(told[i]);
        }
        return (int) ShortPost.class.getMethod(name, types).invoke(post, values);
    }

    private static void example(String block) throws ReflectiveOperationException {
        ShortPost post = null;
        for (String line : block.split("\n")) {
            Matcher call = CALL.matcher(line);
            if (line.equals("ShortPost post = new ShortPost();")) {
                post = new ShortPost();
            } else if (post != null && call.matches()) {
                calls++;
                int got = ask(post, call.group(1), call.group(2));
                due(line + " (answered " + got + ")", got == Integer.parseInt(call.group(3)));
            } else {
                due("not a call with its answer: " + line, line.isEmpty());
            }
        }
    }

    public static void main(String[] args) throws IOException, ReflectiveOperationException {
        String text = Files.readString(Path.of("README.md"));
        Matcher block = BLOCK.matcher(text);
        while (block.find()) example(block.group(1));
        due("only " + calls + " calls", calls > 40);
        for (Method method : ShortPost.class.getMethods()) {
            if (method.getDeclaringClass() == ShortPost.class) {
                due(method.getName() + " is not named", text.contains("`" + method.getName() + "`"));
            }
        }
        System.out.println(wrong == 0 ? "the examples are as due" : wrong + " examples are not as due");
        if (wrong != 0) System.exit(1);
    }
}
