import java.lang.reflect.InvocationTargetException;
import java.lang.reflect.Method;
import java.lang.reflect.Modifier;
import java.nio.file.Files;
import java.nio.file.Path;
import java.util.Set;
import java.util.TreeSet;
import java.util.regex.Matcher;
import java.util.regex.Pattern;

/** The calls that README.md shows, made as they stand there: what it says that they answer must be so. */
public final class ReadmeTest extends Answers {
    private static final Pattern CALL = Pattern.compile("x\\.(\\w+)\\(([-0-9, ]*)\\); +// (-?\\d+)\\b.*");
    private static final Pattern PUT = Pattern.compile("put\\(x, \"([^\"]*)\"\\);");
    private static final Set<String> CALLED = new TreeSet<>();

    private ReadmeTest() {
    }

    public static void main(String[] args) throws Exception {
        String readme = Files.readString(Path.of("README.md"));
        Matcher blocks = Pattern.compile("(?s)```java\n(SumNames x = .*?)```").matcher(readme);
        while (blocks.find()) {
            doBlock(blocks.group(1).split("\n"));
        }
        where = "README.md";
        // the helper put of the page uses it
        CALLED.add("write");
        for (Method m : SumNames.class.getDeclaredMethods()) {
            if (Modifier.isPublic(m.getModifiers())) {
                due("whether it shows " + m.getName() + "()", CALLED.contains(m.getName()) ? 1 : 0, 1);
            }
        }
        finish();
    }

    private static void doBlock(String[] lines) throws IllegalAccessException, InvocationTargetException {
        SumNames x = new SumNames();
        for (String line : lines) {
            where = "README.md, " + line;
            Matcher put = PUT.matcher(line);
            Matcher call = CALL.matcher(line);
            if (put.matches()) {
                put(x, put.group(1));
            } else if (call.matches()) {
                CALLED.add(call.group(1));
                due(call.group(1) + "()", answer(x, call.group(1), call.group(2).split(", ")), Long.parseLong(call.group(3)));
            } else if (!line.equals("SumNames x = new SumNames();")) {
                isWrong("neither a text nor a call with its answer");
            }
        }
    }

    private static long answer(SumNames x, String name, String[] told) throws IllegalAccessException, InvocationTargetException {
        for (Method m : SumNames.class.getDeclaredMethods()) {
            if (Modifier.isPublic(m.getModifiers()) && m.getName().equals(name)) {
                Class<?>[] types = m.getParameterTypes();
                Object[] arguments = new Object[types.length];
                for (int i = 0; i < types.length; i++) {
                    long number = Long.parseLong(told[i]);
                    arguments[i] = types[i] == long.class ? (Object) number : (Object) (int) number;
                }
                return ((Number) m.invoke(x, arguments)).longValue();
            }
        }
        throw new IllegalArgumentException("no such call: " + name);
    }
}
