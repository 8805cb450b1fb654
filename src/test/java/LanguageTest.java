import java.io.IOException;
import java.lang.reflect.Constructor;
import java.lang.reflect.Field;
import java.lang.reflect.Method;
import java.lang.reflect.Modifier;
import java.nio.file.Files;
import java.nio.file.Path;
import java.util.Arrays;
import java.util.Map;
import java.util.Set;
import java.util.TreeSet;
import java.util.regex.Matcher;
import java.util.regex.Pattern;

/** The document's face, and what can be seen of the language's rules from outside. Runs at the project's root. */
public final class LanguageTest {
    private static final String[] FACE = {
        "int ground(int)", "int tell(int,int,int)", "int sized(int,int,int)", "int tabled(int)",
        "int twist(int,int,int)", "int dual(int,int)", "int reduce(int,int,int,int)", "int clear(int)",
        "int has(int,int)", "int member(int,int)", "int of(int,int)", "int taken(int,int)", "int fails(int,int)",
        "int partner(int,int,int,int)", "int near(int,int)", "int apart(int,int,int)", "int weight(int,int)",
        "int weighs(int)", "int greed(int)", "int best(int)", "int entry(int,int,int)", "int entryOf(int,int)",
        "int whole(int)", "int pivot(int)", "int jumps(int,int,int)", "int jump(int,int,int)",
        "int same(int,int,int)", "int row(int,int,int)", "int put(int,int,long)", "long get(int,int)",
        "int copy(int,int,int,int,int)", "int lay(int,int)", "int film(int,int,int)", "int image()", "int back()",
        "int count(int)"
    };
    private static final String[] FORBIDDEN = {
        "\\b(throw|throws|try|catch|synchronized|assert|volatile|native|package|protected)\\b", "->", "::",
        "\\w+Exact\\b", "\\b(equals|hashCode|toString)\\b", "\\b(Random|System\\.(?!arraycopy)\\w+)",
        "\\bArrays\\.(?!(copyOf|copyOfRange|fill)\\b)",
        "import (?!java\\.util\\.(Arrays|ArrayList|List);)", "\"[^\"]*\"\\s*\\+", "\\bstatic\\s*\\{", "[^\\x00-\\x7f]"
    };
    private static final Map<String, Object> CONSTANTS =
        Map.of("NONE", -1, "BAD", -2, "STATE", -3, "NO", Long.MIN_VALUE);
    private static final Set<Class<?>> STATIC_TYPES = Set.of(int.class, long.class, boolean.class, char.class,
        String.class, int[].class, long[].class, char[].class, byte[].class);
    private static int wrong = 0;

    private static void check(boolean holds, String what) {
        if (!holds) {
            wrong++;
            System.out.println(what);
        }
    }

    private static String signature(Method m) {
        StringBuilder text = new StringBuilder(m.getReturnType().getName()).append(' ').append(m.getName()).append('(');
        for (int i = 0; i < m.getParameterCount(); i++) {
            text.append(i == 0 ? "" : ",").append(m.getParameterTypes()[i].getName());
        }
        return text.append(')').toString();
    }

    private static void face() {
        Class<?> type = ExchangeFamilies.class;
        check(Modifier.isPublic(type.getModifiers()) && Modifier.isFinal(type.getModifiers()), "public and final");
        Set<String> found = new TreeSet<>();
        Set<String> names = new TreeSet<>();
        for (Method m : type.getDeclaredMethods()) {
            if (Modifier.isPublic(m.getModifiers())) {
                check(!Modifier.isStatic(m.getModifiers()), "static " + m);
                found.add(signature(m));
                names.add(m.getName());
            }
        }
        check(found.equals(new TreeSet<>(Arrays.asList(FACE))), "the face is " + found);
        checkHidden(type, names);
        Constructor<?>[] made = type.getDeclaredConstructors();
        check(made.length == 1 && Modifier.isPublic(made[0].getModifiers()), "one public constructor");
        for (Class<?> inside : type.getDeclaredClasses()) {
            check(Modifier.isStatic(inside.getModifiers()) && !Modifier.isPublic(inside.getModifiers()), "" + inside);
            checkHidden(inside, names);
        }
        check(type.getDeclaredClasses().length <= 12, "too many classes");
    }

    /** What is not of the face is private outside and has no name of the face; statics are final. */
    private static void checkHidden(Class<?> type, Set<String> names) {
        boolean outer = type == ExchangeFamilies.class;
        for (Method m : type.getDeclaredMethods()) {
            boolean open = outer && Modifier.isPublic(m.getModifiers());
            check(open || !names.contains(m.getName()), m + " has a name of the face");
            check(open || !outer || Modifier.isPrivate(m.getModifiers()), m + " can be seen");
            check(m.getParameterCount() <= 7, m + " has too many parameters");
        }
        int own = 0;
        for (Field f : type.getDeclaredFields()) {
            boolean open = outer && CONSTANTS.containsKey(f.getName());
            check(open == Modifier.isPublic(f.getModifiers()), f + " is seen otherwise than told");
            check(open || !outer || Modifier.isPrivate(f.getModifiers()), f + " can be seen");
            boolean fixed = Modifier.isStatic(f.getModifiers());
            check(!fixed || Modifier.isFinal(f.getModifiers()), f + " is not final");
            check(!fixed || STATIC_TYPES.contains(f.getType()), f + " is of a type that no static field may have");
            own += fixed ? 0 : 1;
        }
        check(own <= 20, type + " has too many fields");
    }

    private static void constants() throws ReflectiveOperationException {
        for (Map.Entry<String, Object> constant : CONSTANTS.entrySet()) {
            Field f = ExchangeFamilies.class.getField(constant.getKey());
            check(Modifier.isStatic(f.getModifiers()), f + " is not static");
            // An int is no Long here: the types are compared with the numbers.
            check(constant.getValue().equals(f.get(null)), f + " is not as told");
        }
    }

    /** Rule 11: some sixty lines; a method ends where its closing bracket stands under its first sign. */
    private static void lengths(String text) {
        String[] lines = text.split("\n");
        Pattern head = Pattern.compile("^( +)(?!(if|for|while|switch|else|do|return)\\b)[\\w\\[\\]]+.*\\) \\{$");
        int methods = 0;
        for (int i = 0; i < lines.length; i++) {
            Matcher m = head.matcher(lines[i]);
            if (!m.matches()) {
                continue;
            }
            int end = i;
            while (end < lines.length && !lines[end].equals(m.group(1) + "}")) {
                end++;
            }
            check(end - i < 60, "a long method: " + lines[i]);
            methods++;
        }
        check(methods > FACE.length, "only " + methods + " methods were found");
    }

    private static void words() throws IOException {
        String text = Files.readString(Path.of("src/main/java/ExchangeFamilies.java"));
        lengths(text);
        String code = text.replaceAll("(?s)/\\*.*?\\*/", "").replaceAll("//[^\n]*", "");
        for (String pattern : FORBIDDEN) {
            Matcher m = Pattern.compile(pattern).matcher(code);
            check(!m.find(), "the program has what matches " + pattern);
        }
    }

    public static void main(String[] args) throws IOException, ReflectiveOperationException {
        face();
        constants();
        words();
        System.out.println(wrong == 0 ? "the face and the words are as told" : wrong + " faults");
        if (wrong != 0) {
            System.exit(1);
        }
    }
}
