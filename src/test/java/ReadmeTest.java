import java.io.IOException;
import java.lang.reflect.InvocationTargetException;
import java.lang.reflect.Method;
import java.nio.file.Files;
import java.nio.file.Path;
import java.util.ArrayList;
import java.util.List;
import java.util.regex.Matcher;
import java.util.regex.Pattern;

/** Makes the calls that README.md shows, and compares what they answer with what it tells behind them. */
public final class ReadmeTest {
    private static final Pattern TEXT = Pattern.compile("put\\(net, \"(.*)\"\\);");
    private static final Pattern CALL = Pattern.compile("net\\.(\\w+)\\((.*)\\); +// ([^:]+)(:.*)?");
    private static int calls;
    private static int wrong;

    public static void main(String[] args) throws IOException, ReflectiveOperationException {
        JoinNet net = new JoinNet();
        boolean isExample = false;
        for (String line : Files.readAllLines(Path.of("README.md"))) {
            if (line.startsWith("```")) {
                isExample = line.equals("```java");
                continue;
            }
            Matcher text = TEXT.matcher(line);
            Matcher call = CALL.matcher(line);
            if (!isExample) {
                continue;
            }
            if (line.startsWith("JoinNet net")) {
                net = new JoinNet();
            } else if (text.matches()) {
                Check.feed(net, text.group(1));
            } else if (call.matches()) {
                compare(line, call.group(3).trim(), answer(net, call.group(1), call.group(2)));
            } else if (line.startsWith("net.")) {
                compare(line, "a number or a truth value behind //", "nothing");
            }
        }
        if (calls < 30) {
            compare("README.md", "30 calls and more", String.valueOf(calls));
        }
        System.out.println("ReadmeTest: " + calls + " answers, " + wrong + " wrong");
        if (wrong != 0) {
            System.exit(1);
        }
    }

    private static void compare(String line, String due, String got) {
        calls++;
        if (!got.equals(due)) {
            wrong++;
            System.out.println(line + " answered " + got);
        }
    }

    private static String answer(JoinNet net, String name, String arguments) throws ReflectiveOperationException {
        for (Method method : JoinNet.class.getMethods()) {
            if (method.getName().equals(name)) {
                try {
                    return String.valueOf(method.invoke(net, values(arguments)));
                } catch (InvocationTargetException e) {
                    return "throws." + e.getCause().getClass().getSimpleName();
                }
            }
        }
        return "no such call";
    }

    private static Object[] values(String arguments) throws ReflectiveOperationException {
        List<Object> values = new ArrayList<>();
        for (String argument : arguments.isEmpty() ? new String[0] : arguments.split(", ")) {
            if (argument.equals("true") || argument.equals("false")) {
                values.add(Boolean.valueOf(argument));
            } else if (argument.startsWith("JoinNet.")) {
                values.add(JoinNet.class.getField(argument.substring("JoinNet.".length())).get(null));
            } else {
                values.add(Integer.valueOf(argument));
            }
        }
        return values.toArray();
    }
}
