import java.io.IOException;
import java.lang.reflect.InvocationTargetException;
import java.lang.reflect.Method;
import java.nio.charset.StandardCharsets;
import java.nio.file.Files;
import java.nio.file.Path;
import java.util.Set;
import java.util.TreeSet;
import java.util.regex.Matcher;
import java.util.regex.Pattern;

/** README.md's example answers what stands behind each of its lines, and its table names every call. */
public final class SnakeBoardReadme {
    private static final Pattern LINE = Pattern.compile("x\\.(\\w+)\\(([^)]*)\\); +// (-?\\w+)\\b.*");
    private static int wrong = 0;

    public static void main(String[] args) throws Exception {
        String readme = Files.readString(Path.of("README.md"), StandardCharsets.UTF_8);
        int lines = runExample(readme);
        due("there is an example", lines > 0, true);
        checkTable(readme);
        System.out.println("readme: " + lines + " lines of the example, " + wrong + " wrong");
        if (wrong != 0) {
            System.exit(1);
        }
    }

    private static void due(String what, Object got, Object want) {
        if (!got.equals(want)) {
            wrong++;
            System.out.println("README.md: " + what + ": " + got + ", due is " + want);
        }
    }

    private static int runExample(String readme) throws IllegalAccessException {
        SnakeBoard x = new SnakeBoard();
        int lines = 0;
        for (String line : readme.split("\n")) {
            Matcher parts = LINE.matcher(line);
            if (parts.matches()) {
                lines++;
                due(line, call(x, parts.group(1), parts.group(2).split(", ")), parts.group(3));
            } else {
                due(line, line.startsWith("x."), false);
            }
        }
        return lines;
    }

    private static String call(SnakeBoard x, String name, String[] words) throws IllegalAccessException {
        for (Method method : SnakeBoard.class.getDeclaredMethods()) {
            if (!method.getName().equals(name)) {
                continue;
            }
            Class<?>[] types = method.getParameterTypes();
            Object[] values = new Object[types.length];
            for (int i = 0; i < types.length; i++) {
                long value = Long.decode(words[i]);
                // a number of eight hexadecimal digits may be above the greatest int
                values[i] = types[i] == int.class ? (Object) (int) value : (Object) value;
            }
            try {
                return String.valueOf(method.invoke(x, values));
            } catch (InvocationTargetException e) {
                return e.getCause().getClass().getSimpleName();
            }
        }
        return "no such call";
    }

    private static void checkTable(String readme) {
        Set<String> named = new TreeSet<>();
        Matcher cells = Pattern.compile("(?m)^\\| [^|]+ \\| (.*`.*) \\|$").matcher(readme);
        while (cells.find()) {
            Matcher names = Pattern.compile("`(\\w+)`").matcher(cells.group(1));
            while (names.find()) {
                due(names.group(1) + " is named once", named.add(names.group(1)), true);
            }
        }
        Set<String> face = new TreeSet<>();
        for (Method method : SnakeBoard.class.getDeclaredMethods()) {
            if (java.lang.reflect.Modifier.isPublic(method.getModifiers())) {
                face.add(method.getName());
            }
        }
        due("the calls in its table", named, face);
    }
}
