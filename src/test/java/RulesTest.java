import java.io.IOException;
import java.lang.reflect.Constructor;
import java.lang.reflect.Field;
import java.lang.reflect.Method;
import java.lang.reflect.Modifier;
import java.nio.file.Files;
import java.nio.file.Path;
import java.util.Arrays;
import java.util.List;
import java.util.Set;
import java.util.TreeSet;
import java.util.regex.Pattern;

/** The face of the class, and what can be seen from outside of LANGUAGE.md's rules. */
public final class RulesTest {
    private static final String[] FACE = {
        "int feed(int, int, int, int, int)", "boolean end(int)", "int fault(int)", "int text(int)",
        "int thing(int, int)", "int buyer(int, int)", "int liking(int, int)", "int bill(int, int, int)",
        "boolean law(int)", "boolean tempted(int)", "int pick(int, int)", "int putBack(int)", "int hand(int, int)",
        "int buy(int)", "int hour()", "int clerk(int)", "int rate(int)", "int gift(int, int)", "int years(int, long)",
        "int status(int)", "int undo()", "int log(int, int)", "int step(int, int, int)", "int run(int, int)",
        "int perform(int)", "int treasury(int)", "int purse(int, int)", "int whose(int, int)",
        "int seek(int, int, int)", "int raises(int, int)", "int selling(int, int)", "int seen(int, int, boolean)",
        "int desires(int, int)", "int ask(int)", "int game(int, int, int, int, int)", "int rests(int, int, int)",
        "int odds(int, int, int)", "int shares(int, int)", "int all(int)", "int image()", "int back()", "int count(int)"};

    private static String told(Method m) {
        StringBuilder s = new StringBuilder(m.getReturnType().getSimpleName()).append(' ').append(m.getName());
        String types = Arrays.toString(Arrays.stream(m.getParameterTypes()).map(Class::getSimpleName).toArray());
        return s.append('(').append(types, 1, types.length() - 1).append(')').toString();
    }

    private static void face() {
        Class<?> c = NearlyBought.class;
        Kit.due("public final", c.getModifiers(), Modifier.PUBLIC | Modifier.FINAL);
        Set<String> shown = new TreeSet<>();
        Set<String> hidden = new TreeSet<>();
        for (Method m : c.getDeclaredMethods()) {
            if (Modifier.isPrivate(m.getModifiers())) {
                hidden.add(m.getName());
            } else {
                shown.add(told(m));
                Kit.due("public " + m, m.getModifiers(), Modifier.PUBLIC);
            }
        }
        Kit.due("the face: " + shown, shown.equals(new TreeSet<>(List.of(FACE))), true);
        Set<String> names = new TreeSet<>();
        for (String method : FACE) {
            names.add(method.substring(method.indexOf(' ') + 1, method.indexOf('(')));
        }
        for (Class<?> inner : c.getDeclaredClasses()) {
            Kit.due("static " + inner, Modifier.isStatic(inner.getModifiers()), true);
            Kit.due("not public " + inner, Modifier.isPublic(inner.getModifiers()), false);
            for (Method m : inner.getDeclaredMethods()) {
                hidden.add(m.getName());
                Kit.due("parameters of " + m, m.getParameterCount() <= 7, true);
            }
            Kit.due("fields of " + inner, ownFields(inner) <= 20, true);
            staticsAreFinal(inner);
        }
        for (String name : hidden) {
            Kit.due("no other method is called " + name, names.contains(name), false);
        }
        Kit.due("classes", c.getDeclaredClasses().length <= 12, true);
        Kit.due("fields", ownFields(c) <= 20, true);
        staticsAreFinal(c);
        Set<String> open = new TreeSet<>();
        for (Field f : c.getDeclaredFields()) {
            if (!Modifier.isPrivate(f.getModifiers())) {
                open.add(f.getName());
            }
        }
        Kit.due("the constants: " + open, open.equals(Set.of("NONE", "HIDDEN")), true);
        Kit.due("one constructor", c.getDeclaredConstructors().length, 1);
        Constructor<?> made = c.getDeclaredConstructors()[0];
        Kit.due("public, without parameters", made.getParameterCount() + made.getModifiers(), Modifier.PUBLIC);
        Kit.due("NONE", NearlyBought.NONE, -1);
        Kit.due("HIDDEN", NearlyBought.HIDDEN, -1000000);
    }

    private static long ownFields(Class<?> c) {
        return Arrays.stream(c.getDeclaredFields()).filter(f -> !Modifier.isStatic(f.getModifiers())).count();
    }

    private static void staticsAreFinal(Class<?> c) {
        for (Field f : c.getDeclaredFields()) {
            if (Modifier.isStatic(f.getModifiers())) {
                Kit.due("final " + f, Modifier.isFinal(f.getModifiers()), true);
            }
        }
    }

    private static void source() throws IOException {
        String text = Files.readString(Path.of("src/main/java/NearlyBought.java"));
        String code = text.replaceAll("(?s)/\\*.*?\\*/", "").replaceAll("//[^\n]*", "");
        String[] ruledOut = {"->", "::", "\\bcatch\\b", "\\btry\\b", "\\bfinally\\b", "\\bassert\\b", "Exact\\b",
            "\\bsynchronized\\b", "\\bSystem\\.(?!arraycopy)", "\\bRandom\\b", "\\bpackage\\b", "\\binstanceof\\b",
            "\\bMath\\.(?!max|min)", "\\bArrays\\.(?!fill)", "\\bInteger\\.(?!bitCount)", "\\bdouble\\b", "\\bfloat\\b",
            "\\[\\]\\[\\]", "static \\{", "\\brecord\\b", "\"", "hashCode|toString|equals"};
        for (String out : ruledOut) {
            Kit.due("ruled out: " + out, Pattern.compile(out).matcher(code).find(), false);
        }
        String[] imports = code.lines().filter(l -> l.startsWith("import")).toArray(String[]::new);
        Kit.due("imports", Arrays.equals(imports, new String[] {"import java.util.Arrays;",
            "import java.util.NoSuchElementException;"}), true);
        int throwing = code.split("\\bthrow new\\b", -1).length - 1;
        Kit.due("one throw, that of buyer", throwing, 1);
        methodsAreShort(code);
    }

    private static void methodsAreShort(String code) {
        String[] lines = code.split("\n");
        for (int i = 0; i < lines.length; i++) {
            if (!lines[i].matches(" {4,8}(public|private)? ?[a-zA-Z\\[\\]]+ [a-zA-Z]+\\(.*\\{")) {
                continue;
            }
            String close = lines[i].replaceAll("\\S.*", "") + "}";
            int length = 1;
            while (!lines[i + length - 1].equals(close)) {
                length++;
            }
            Kit.due("short: " + lines[i].trim(), length <= 60, true);
        }
    }

    public static void main(String[] args) throws IOException {
        face();
        source();
        Kit.end();
    }
}
