import java.io.IOException;
import java.lang.reflect.InvocationTargetException;
import java.lang.reflect.Method;
import java.lang.reflect.Modifier;
import java.nio.file.Files;
import java.nio.file.Path;
import java.util.ArrayList;
import java.util.List;
import java.util.regex.Matcher;
import java.util.regex.Pattern;

/** The example of README.md: each row answers what stands behind it; and no call of the face is left out there. */
public final class ReadmeTest {
    private static final Pattern ROW = Pattern.compile("x\\.(\\w+)\\((.*?)\\); *// (-?\\w+).*");

    private static Method method(String name) {
        for (Method m : NearlyBought.class.getDeclaredMethods()) {
            if (Modifier.isPublic(m.getModifiers()) && m.getName().equals(name)) {
                return m;
            }
        }
        throw new IllegalStateException("no call " + name);
    }

    private static Object answer(NearlyBought x, String name, String args) {
        List<Object> given = new ArrayList<>();
        for (String arg : args.isEmpty() ? new String[0] : args.split(", ")) {
            given.add(Long.decode(arg).intValue());
        }
        try {
            return method(name).invoke(x, given.toArray());
        } catch (IllegalAccessException | InvocationTargetException e) {
            throw new IllegalStateException(name, e);
        }
    }

    private static int example(String text) {
        NearlyBought x = new NearlyBought();
        int rows = 0;
        for (String line : text.lines().filter(l -> l.startsWith("x.")).toList()) {
            Matcher row = ROW.matcher(line);
            Kit.due("a row: " + line, row.matches(), true);
            if (row.matches()) {
                String got = answer(x, row.group(1), row.group(2)).toString();
                Kit.due(line + " (it answers " + got + ")", got.equals(row.group(3)), true);
                rows++;
            }
        }
        return rows;
    }

    public static void main(String[] args) throws IOException {
        String text = Files.readString(Path.of("README.md"));
        Kit.due("rows", example(text) > 10, true);
        for (Method m : NearlyBought.class.getDeclaredMethods()) {
            if (Modifier.isPublic(m.getModifiers())) {
                Kit.due("README.md tells of " + m.getName(), text.contains("`" + m.getName() + "`"), true);
            }
        }
        Kit.end();
    }
}
