import java.io.IOException;
import java.lang.reflect.InvocationTargetException;
import java.lang.reflect.Method;
import java.lang.reflect.Modifier;
import java.nio.file.Files;
import java.nio.file.Path;
import java.util.ArrayList;
import java.util.List;
import java.util.regex.Matcher;
import java.util.regex.Pattern;

/** README.md: each call on the page answers what stands behind it, and every call of the face is named there. */
public final class ReadmeTest {
    private static final Check CHECK = new Check("ReadmeTest");
    private static final Pattern BLOCK = Pattern.compile("```java\n(.*?)```", Pattern.DOTALL);
    private static final Pattern FED = Pattern.compile("feed\\(x, \"([^\"]*)\"\\);");
    private static final Pattern CALL = Pattern.compile("x\\.(\\w+)\\(([^)]*)\\);(?: // (-?\\d+|true|false)(?::.*)?)?");

    private static TwinShelf x = new TwinShelf();
    private static int answers = 0;

    public static void main(String[] args) throws IOException, ReflectiveOperationException {
        String page = Files.readString(Path.of("README.md"));
        String helpers = stripped(Files.readString(Path.of("src/test/java/Check.java")));
        Matcher blocks = BLOCK.matcher(page);
        while (blocks.find()) {
            if (blocks.group(1).startsWith("static")) {
                for (String helper : blocks.group(1).split("\n\n")) {
                    CHECK.due("the tests have " + helper, helpers.contains(stripped(helper)), true);
                }
            } else {
                run(blocks.group(1));
            }
        }
        CHECK.due("the page shows calls with answers", answers > 50, true);
        allNamed(page);
        CHECK.end();
    }

    private static String stripped(String code) {
        return code.replaceAll("\\s+", " ");
    }

    private static void run(String block) throws ReflectiveOperationException {
        for (String line : block.split("\n")) {
            Matcher fed = FED.matcher(line);
            Matcher call = CALL.matcher(line);
            if (line.equals("TwinShelf x = new TwinShelf();")) {
                x = new TwinShelf();
            } else if (fed.matches()) {
                Check.feed(x, fed.group(1));
            } else if (call.matches()) {
                ask(line, call);
            } else {
                CHECK.due("'" + line + "' can be run", line.startsWith("//"), true);
            }
        }
    }

    private static void ask(String line, Matcher call) throws ReflectiveOperationException {
        Method method = named(call.group(1));
        Object answer = answer(method, values(method, call.group(2)));
        String due = call.group(3);
        if (due != null) {
            answers++;
            CHECK.due("'" + line + "' (" + answer + ")", String.valueOf(answer).equals(due), true);
        }
    }

    private static Object answer(Method method, Object[] values) throws ReflectiveOperationException {
        try {
            return method.invoke(x, values);
        } catch (InvocationTargetException e) {
            return e.getCause();
        }
    }

    private static Method named(String name) throws NoSuchMethodException {
        for (Method method : TwinShelf.class.getDeclaredMethods()) {
            if (Modifier.isPublic(method.getModifiers()) && method.getName().equals(name)) {
                return method;
            }
        }
        throw new NoSuchMethodException(name);
    }

    private static Object[] values(Method method, String told) {
        List<Object> values = new ArrayList<>();
        for (String value : told.isEmpty() ? new String[0] : told.split(", ")) {
            Class<?> type = method.getParameterTypes()[values.size()];
            if (type == boolean.class) {
                values.add(Boolean.valueOf(value));
            } else {
                long number = value.equals("TwinShelf.NONE") ? TwinShelf.NONE : Long.decode(value);
                values.add(type == long.class ? (Object) number : (Object) (int) number);
            }
        }
        return values.toArray();
    }

    private static void allNamed(String page) {
        for (Method method : TwinShelf.class.getDeclaredMethods()) {
            if (Modifier.isPublic(method.getModifiers())) {
                CHECK.due("the page names " + method.getName(), page.contains("`" + method.getName() + "`"), true);
            }
        }
    }
}
