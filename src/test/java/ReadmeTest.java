import java.io.IOException;
import java.lang.reflect.InvocationTargetException;
import java.lang.reflect.Method;
import java.nio.file.Files;
import java.nio.file.Path;
import java.util.regex.Matcher;
import java.util.regex.Pattern;

/** Calls what the example of README.md calls, and compares each answer with the one that is told there. */
public final class ReadmeTest {
    private static final Path README = Path.of("README.md");
    private static final Pattern CALL = Pattern.compile("treaty\\.(\\w+)\\((.*)\\); +// (.+)");
    private static final String NEW = "GiantStairs treaty = new GiantStairs();";

    public static void main(String[] args) throws IOException, IllegalAccessException {
        String[] lines = example(Files.readString(README)).split("\n");
        boolean isRight = lines.length > 1 && lines[0].equals(NEW);
        GiantStairs treaty = new GiantStairs();
        for (int i = 1; i < lines.length; i++) {
            Matcher call = CALL.matcher(lines[i]);
            String got = call.matches() ? answer(treaty, call.group(1), call.group(2)) : "no call";
            if (!call.matches() || !got.equals(call.group(3))) {
                isRight = false;
                System.out.println("README.md: " + lines[i] + " answers " + got);
            }
        }
        System.out.println(isRight ? "the example is right" : "the example is wrong");
        if (!isRight) {
            System.exit(1);
        }
    }

    private static String example(String readme) {
        int start = readme.indexOf("```java\n") + "```java\n".length();
        int end = readme.indexOf("```", start);
        return end < start ? "" : readme.substring(start, end);
    }

    private static String answer(GiantStairs treaty, String name, String given) throws IllegalAccessException {
        String[] words = given.isEmpty() ? new String[0] : given.split(", ");
        for (Method method : GiantStairs.class.getMethods()) {
            if (method.getName().equals(name) && method.getParameterCount() == words.length) {
                try {
                    return String.valueOf(method.invoke(treaty, arguments(method, words)));
                } catch (InvocationTargetException e) {
                    return "throws " + e.getCause().getClass().getSimpleName();
                }
            }
        }
        return "no such method";
    }

    private static Object[] arguments(Method method, String[] words) {
        Object[] arguments = new Object[words.length];
        for (int i = 0; i < words.length; i++) {
            Class<?> type = method.getParameterTypes()[i];
            if (type == char.class) {
                arguments[i] = words[i].charAt(1);
            } else if (type == boolean.class) {
                arguments[i] = Boolean.valueOf(words[i]);
            } else {
                arguments[i] = Integer.valueOf(words[i]);
            }
        }
        return arguments;
    }
}
