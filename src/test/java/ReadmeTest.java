import java.io.IOException;
import java.lang.reflect.Method;
import java.lang.reflect.Modifier;
import java.nio.file.Files;
import java.nio.file.Path;
import java.util.HashMap;
import java.util.Map;
import java.util.Set;
import java.util.TreeSet;
import java.util.regex.Matcher;
import java.util.regex.Pattern;

/** The calls that README.md shows, made one after another, answer what it says. Runs at the project's root. */
public final class ReadmeTest {
    private static final Pattern CALL = Pattern.compile("^ {4}x\\.(\\w+)\\(([^)]*)\\);(?: +// (-?\\d+|NO)(?::.*)?)?$");
    private static final String MADE = "    ExchangeFamilies x = new ExchangeFamilies();";

    private static final Map<String, Method> FACE = new HashMap<>();
    private static int wrong = 0;

    private static void check(boolean holds, String what) {
        if (!holds) {
            wrong++;
            System.out.println(what);
        }
    }

    private static Object[] arguments(Method m, String text) {
        String[] words = text.isEmpty() ? new String[0] : text.split(", ");
        Object[] result = new Object[words.length];
        for (int i = 0; i < words.length; i++) {
            boolean isLong = m.getParameterTypes()[i] == long.class;
            if (isLong) {
                result[i] = Long.parseLong(words[i]);
            } else {
                result[i] = Integer.parseInt(words[i]);
            }
        }
        return result;
    }

    private static void call(ExchangeFamilies x, Matcher m, String line) throws ReflectiveOperationException {
        Method method = FACE.get(m.group(1));
        if (x == null || method == null || m.group(3) == null) {
            check(false, "no object, no such call or no answer told:" + line);
            return;
        }
        long due = m.group(3).equals("NO") ? ExchangeFamilies.NO : Long.parseLong(m.group(3));
        long got = ((Number) method.invoke(x, arguments(method, m.group(2)))).longValue();
        check(got == due, "answered " + got + ":" + line);
    }

    public static void main(String[] args) throws IOException, ReflectiveOperationException {
        for (Method m : ExchangeFamilies.class.getDeclaredMethods()) {
            if (Modifier.isPublic(m.getModifiers())) {
                FACE.put(m.getName(), m);
            }
        }
        Set<String> unseen = new TreeSet<>(FACE.keySet());
        ExchangeFamilies x = null;
        int calls = 0;
        for (String line : Files.readAllLines(Path.of("README.md"))) {
            Matcher m = CALL.matcher(line);
            if (line.startsWith(MADE)) {
                x = new ExchangeFamilies();
            } else if (m.matches()) {
                call(x, m, line);
                unseen.remove(m.group(1));
                calls++;
            } else {
                check(!line.startsWith("    x."), "not to be read as a call:" + line);
            }
        }
        check(unseen.isEmpty(), "the page has no call of " + unseen);
        System.out.println(calls + " calls of README.md, " + wrong + " faults");
        if (wrong != 0) {
            System.exit(1);
        }
    }
}
