import java.io.IOException;
import java.lang.reflect.InvocationTargetException;
import java.lang.reflect.Method;
import java.lang.reflect.Modifier;
import java.nio.file.Files;
import java.nio.file.Path;
import java.util.HashMap;
import java.util.Map;
import java.util.regex.Matcher;
import java.util.regex.Pattern;

/** README.md's example answers what stands behind each call, and each call of the face is told of there. */
public final class ReadmeTest {
    private static final Check c = new Check("ReadmeTest");
    private static final Pattern CALL = Pattern.compile("(?:int (\\w+) = )?x\\.(\\w+)\\((.*?)\\);\\s*// (-?\\d+)(?::.*)?");
    private static final Map<String, Long> names = new HashMap<>();

    public static void main(String[] args) throws IOException, ReflectiveOperationException {
        String readme = Files.readString(Path.of("README.md"));
        MonsoonTrade x = new MonsoonTrade();
        int calls = 0;
        for (String line : readme.split("\n")) {
            Matcher call = CALL.matcher(line);
            if (call.matches()) {
                calls++;
                answersAsTold(x, line, call);
            }
        }
        c.holds("the example has calls", calls > 30);
        everyCallIsTold(readme);
        c.finish();
    }

    private static void answersAsTold(MonsoonTrade x, String line, Matcher call)
            throws IllegalAccessException, InvocationTargetException {
        String[] words = call.group(3).isEmpty() ? new String[0] : call.group(3).split(", ");
        Method method = method(call.group(2));
        Object[] numbers = new Object[words.length];
        for (int i = 0; i < words.length; i++) {
            long number = names.containsKey(words[i]) ? names.get(words[i]) : Long.parseLong(words[i].replace("L", ""));
            if (method.getParameterTypes()[i] == int.class) {
                numbers[i] = (int) number;
            } else {
                numbers[i] = number;
            }
        }
        long answer = ((Number) method.invoke(x, numbers)).longValue();
        c.due("README.md: " + line, answer, Long.parseLong(call.group(4)));
        if (call.group(1) != null) {
            names.put(call.group(1), answer);
        }
    }

    private static Method method(String name) {
        for (Method m : MonsoonTrade.class.getMethods()) {
            if (m.getName().equals(name)) {
                return m;
            }
        }
        throw new IllegalStateException("no call " + name);
    }

    /** With as many names in its brackets as it takes numbers. */
    private static void everyCallIsTold(String readme) {
        for (Method m : MonsoonTrade.class.getDeclaredMethods()) {
            if (Modifier.isPublic(m.getModifiers())) {
                int n = m.getParameterCount();
                String row = "(?m)^\\| `" + m.getName() + "\\(" + (n == 0 ? "" : "\\w+(, \\w+){" + (n - 1) + "}") + "\\)` \\|";
                c.holds("README.md tells of " + m.getName(), Pattern.compile(row).matcher(readme).find());
            }
        }
    }
}
