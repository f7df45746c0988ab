import java.io.IOException;
import java.lang.reflect.InvocationTargetException;
import java.lang.reflect.Method;
import java.lang.reflect.Modifier;
import java.nio.file.Files;
import java.nio.file.Path;
import java.util.regex.Matcher;
import java.util.regex.Pattern;

/** Runs the calls that README.md shows, line by line: each must answer what is told behind it. */
public final class ReadmeTest {
    private static final Pattern CALL = Pattern.compile("x\\.(\\w+)\\(([^()]*)\\);\\s*(//.*)?");
    private static final Pattern ANSWER = Pattern.compile("// (-?\\d+|true|false|throws \\w+)\\b.*");

    private static int checks = 0;
    private static int wrong = 0;

    private static void check(boolean right, String what) {
        checks++;
        if (!right) {
            wrong++;
            System.out.println(what);
        }
    }

    private static Method named(String name) {
        for (Method m : SowingHouse.class.getDeclaredMethods()) {
            if (m.getName().equals(name) && Modifier.isPublic(m.getModifiers())) {
                return m;
            }
        }
        return null;
    }

    private static Object[] arguments(Method m, String told) {
        Class<?>[] types = m.getParameterTypes();
        Object[] all = new Object[types.length];
        String[] texts = told.isBlank() ? new String[0] : told.split(",");
        for (int i = 0; i < all.length && i < texts.length; i++) {
            long number = Long.decode(texts[i].strip());
            if (types[i] == long.class) {
                all[i] = number;
            } else {
                all[i] = (int) number;
            }
        }
        return all;
    }

    private static String answer(SowingHouse x, Method m, Object[] arguments) throws IllegalAccessException {
        try {
            return String.valueOf(m.invoke(x, arguments));
        } catch (InvocationTargetException e) {
            return "throws " + e.getCause().getClass().getSimpleName();
        }
    }

    private static void runLine(SowingHouse x, String line) throws IllegalAccessException {
        Matcher call = CALL.matcher(line);
        Method m = call.matches() ? named(call.group(1)) : null;
        if (m == null) {
            check(false, "not a call of the face: " + line);
            return;
        }
        Matcher told = ANSWER.matcher(call.group(3) == null ? "" : call.group(3));
        String due = told.matches() ? told.group(1) : "null";
        String got = answer(x, m, arguments(m, call.group(2)));
        check(got.equals(due), line + " answered " + got);
    }

    private static void runExample(String text) throws IllegalAccessException {
        int from = text.indexOf("```java\n");
        int until = text.indexOf("```\n", from + 8);
        check(from >= 0 && until > from, "there is no example");
        SowingHouse x = new SowingHouse();
        for (String line : text.substring(from + 8, until).split("\n")) {
            if (!line.startsWith("//") && !line.startsWith("SowingHouse x =")) {
                runLine(x, line);
            }
        }
    }

    public static void main(String[] args) throws IOException, IllegalAccessException {
        String text = Files.readString(Path.of("README.md"));
        runExample(text);
        for (Method m : SowingHouse.class.getDeclaredMethods()) {
            if (Modifier.isPublic(m.getModifiers())) {
                check(text.contains("`" + m.getName() + "`"), "README.md doesn't name " + m.getName());
            }
        }
        System.out.println(checks + " checks, " + wrong + " wrong");
        if (wrong != 0) {
            System.exit(1);
        }
    }
}
