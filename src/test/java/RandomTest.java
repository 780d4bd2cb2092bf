import java.lang.reflect.InvocationTargetException;
import java.lang.reflect.Method;
import java.util.ArrayList;
import java.util.Arrays;
import java.util.Collections;
import java.util.List;
import java.util.NoSuchElementException;
import java.util.Random;

/** Runs of random calls, each held against the Model: no answer differs, nothing else is thrown. */
public final class RandomTest {
    private static final int[] EDGES = {Integer.MIN_VALUE, Integer.MAX_VALUE, -1000000, -2, -1, 99, 1000, 65536};

    private final Random random;
    private final NearlyBought x = new NearlyBought();
    private final Model model = new Model();
    private final List<String> calls = new ArrayList<>();

    private RandomTest(long seed) {
        random = new Random(seed);
    }

    private int below(int n) {
        return random.nextInt(n);
    }

    private String blank() {
        return below(8) == 0 ? " " : "";
    }

    /** A number within bounds, these themselves more often than others. */
    private int within(int low, int high) {
        return below(4) > 0 ? low + below(high - low + 1) : below(2) == 0 ? low : high;
    }

    private String items(String letters, int[] lowest, int... highest) {
        StringBuilder s = new StringBuilder();
        for (int i = 0; i < letters.length(); i++) {
            if (below(3) > 0) {
                s.append(blank()).append(letters.charAt(i)).append(blank()).append(within(lowest[i], highest[i]));
            }
        }
        return s.toString();
    }

    private String cityText() {
        List<String> clauses = new ArrayList<>();
        if (below(3) > 0) {
            clauses.add("s" + items("rhyi", new int[] {0, 0, 2, 0}, 8, 9, below(2) == 0 ? 6 : 30, 30));
        }
        int things = 1 + below(8);
        int buyers = 1 + below(6);
        for (int i = 0; i < things; i++) {
            clauses.add("t" + items("pws", new int[] {1, 0, 0}, below(2) == 0 ? 40 : 99, 9, 3));
        }
        for (int i = 0; i < buyers; i++) {
            clauses.add("b" + items("mdnk", new int[4], 99, 9, 9, 2));
        }
        Collections.shuffle(clauses, random);
        return String.join(blank() + ";" + blank(), clauses);
    }

    /** A CITY in which much is touched and little bought, so that the TREASURY is full soon. */
    private String dearCityText() {
        StringBuilder s = new StringBuilder("sr8h").append(below(10)).append('y').append(2 + below(3)).append("i30");
        for (int n = 2 + below(4); n > 0; n--) {
            s.append(";tp").append(50 + below(50)).append('w').append(below(3)).append('s').append(below(4));
        }
        for (int n = 4 + below(3); n > 0; n--) {
            s.append(";bn9d").append(below(6)).append('k').append(below(5) / 4);
        }
        return s.toString();
    }

    private String atom(int depth) {
        int kind = below(8);
        if (kind == 0 && depth < 6) {
            return "[" + sum(depth + 1) + "]";
        }
        if (kind < 3) {
            return String.valueOf(below(below(4) == 0 ? 10000 : 20));
        }
        return String.valueOf("pwdmsh".charAt(below(6)));
    }

    private String sum(int depth) {
        StringBuilder s = new StringBuilder(atom(depth));
        for (int n = below(3); n > 0; n--) {
            s.append(blank()).append("++-*/".charAt(below(5))).append(blank()).append(atom(depth));
        }
        return s.toString();
    }

    private String unit(int depth) {
        int kind = below(6);
        if (kind == 0 && depth < 6) {
            return "!" + blank() + unit(depth + 1);
        }
        if (kind == 1 && depth < 6) {
            return "(" + condition(depth + 1) + ")";
        }
        return sum(depth) + "=<>".charAt(below(3)) + sum(depth);
    }

    private String condition(int depth) {
        StringBuilder s = new StringBuilder(unit(depth));
        for (int n = below(3); n > 0; n--) {
            s.append("&|".charAt(below(2))).append(unit(depth));
        }
        return s.toString();
    }

    private String lawText() {
        StringBuilder s = new StringBuilder();
        for (int n = 1 + below(3); n > 0; n--) {
            s.append(s.length() > 0 ? ";" : "").append(blank()).append("y:");
            s.append(below(3) > 0 ? condition(0) + "?" : "").append(sum(0));
        }
        return s.toString();
    }

    private String dayText() {
        StringBuilder s = new StringBuilder();
        for (int n = 1 + below(below(4) == 0 ? 17 : 6); n > 0; n--) {
            s.append(s.length() > 0 ? ";" : "").append(blank());
            switch (below(7)) {
                case 0 -> s.append("b").append(below(4));
                case 1 -> s.append("g").append(below(3)).append(blank()).append(below(3));
                case 2 -> s.append("y").append(below(4));
                case 3, 4 -> s.append("p").append(blank()).append(below(4)).append(below(5));
                default -> s.append("h");
            }
        }
        return s.toString();
    }

    private String spoiled(String text) {
        StringBuilder s = new StringBuilder(text);
        String signs = "stbrhyipwmdnkg0123456789:;?!()[]=<>+-*/&|  \u00e9x";
        for (int n = 1 + below(2); n > 0 && s.length() > 0; n--) {
            int at = below(s.length());
            switch (below(4)) {
                case 0 -> s.deleteCharAt(at);
                case 1 -> s.insert(at, signs.charAt(below(signs.length())));
                case 2 -> s.setCharAt(at, signs.charAt(below(signs.length())));
                default -> s.setLength(at);
            }
        }
        return s.toString();
    }

    private boolean call(String name, Object... args) {
        Object got = answer(x, name, args);
        Object want = answer(model, name, args);
        calls.add(name + Arrays.toString(args) + " = " + want);
        if (got.equals(want)) {
            return true;
        }
        System.out.println("due is " + want + ", but the answer was " + got + "; the calls:");
        calls.forEach(System.out::println);
        return false;
    }

    private static Object answer(Object on, String name, Object[] args) {
        Object[] given = args;
        if (name.equals("feed") && on instanceof Model) {
            int[] words = Arrays.stream(args).mapToInt(a -> (Integer) a).toArray();
            given = new Object[] {words};
        }
        for (Method m : on.getClass().getDeclaredMethods()) {
            if (!m.getName().equals(name)) {
                continue;
            }
            try {
                return m.invoke(on, given);
            } catch (InvocationTargetException e) {
                if (e.getCause() instanceof NoSuchElementException) {
                    return "NoSuchElementException";
                }
                throw new IllegalStateException(name + Arrays.toString(args), e.getCause());
            } catch (IllegalAccessException e) {
                throw new IllegalStateException(e);
            }
        }
        throw new IllegalStateException(name);
    }

    private boolean tell(int sort, String text) {
        if (text.length() > 240) {
            return true;
        }
        String fed = withZeros(text);
        boolean right = call("end", 0);
        for (int at = 0; at < fed.length(); at += 20) {
            right &= call("feed", Kit.word(fed, at), Kit.word(fed, at + 4), Kit.word(fed, at + 8),
                Kit.word(fed, at + 12), Kit.word(fed, at + 16));
        }
        for (int other = 0; other < 3; other++) {
            right &= call("fault", other);
        }
        return right && call("text", sort);
    }

    /** Bytes of 0, which do not come to the TAPE, stand anywhere. */
    private String withZeros(String text) {
        StringBuilder s = new StringBuilder(text);
        for (int n = below(3); n > 0; n--) {
            s.insert(below(s.length() + 1), (char) 0);
        }
        return s.toString();
    }

    private boolean tellSome() {
        int sort = below(3);
        String text = sort == 0 ? cityText() : sort == 1 ? lawText() : dayText();
        return tell(sort, below(2) == 0 ? text : spoiled(text)) && call("law", below(5) - 1);
    }

    private int argument(int among) {
        return below(40) == 0 ? EDGES[below(EDGES.length)] : below(among + 1) - (below(8) == 0 ? 1 : 0);
    }

    private boolean act() {
        int b = argument(model.city == null ? 2 : model.city.buyers.size());
        int t = argument(model.city == null ? 2 : model.city.things.size());
        return switch (below(11)) {
            case 0, 1 -> call("pick", b, t);
            case 2 -> call("putBack", b);
            case 3 -> call("hand", b, argument(4));
            case 4 -> call("buy", b);
            case 5 -> call("clerk", argument(4));
            case 6 -> call("rate", argument(8));
            case 7 -> call("gift", b, argument(50));
            case 8 -> call("perform", argument(3));
            case 9 -> below(3) == 0 ? call("years", argument(30), random.nextLong()) : call("hour");
            default -> call("hour");
        };
    }

    private boolean look() {
        int b = argument(model.city == null ? 2 : model.city.buyers.size());
        int t = argument(model.city == null ? 2 : model.city.things.size());
        int what = argument(1);
        return switch (below(29)) {
            case 0 -> call("thing", t, argument(5));
            case 1 -> call("buyer", b, argument(6));
            case 2 -> call("liking", b, t);
            case 3 -> call("bill", b, argument(4), argument(2));
            case 4 -> call("law", argument(4) - 1);
            case 5 -> call("tempted", argument(9));
            case 6 -> call("status", argument(5));
            case 7 -> call("undo");
            case 8 -> call("log", argument(below(3) == 0 ? 60 : 6), argument(2));
            case 9 -> call("step", argument(3), argument(8), argument(2));
            case 10, 11 -> call("run", argument(3), what);
            case 12 -> call("treasury", argument(60));
            case 13 -> call("purse", b, argument(60));
            case 14 -> call("whose", t, argument(60));
            case 15 -> call("seek", b, argument(4), what);
            case 16 -> call("raises", argument(60), what);
            case 17 -> call("selling", t, what);
            case 18 -> call("seen", argument(60), argument(below(2) == 0 ? 30 : 999), below(2) == 0);
            case 19 -> call("desires", b, argument(10) - 1);
            case 20 -> call("ask", b);
            case 21 -> call("game", b, t, argument(3), argument(2), what);
            case 22 -> call("rests", b, t, argument(4) - 1);
            case 23 -> call("odds", argument(6), argument(below(2) == 0 ? 30 : 999), argument(100));
            case 24 -> call("shares", b, argument(999));
            case 25 -> call("all", argument(12));
            case 26 -> call("image");
            case 27 -> below(3) > 0 || call("back");
            default -> call("count", argument(13));
        };
    }

    private boolean sameState() {
        boolean same = true;
        for (int what = 0; what < 14; what++) {
            same &= call("count", what) && call("all", what) && call("status", what);
        }
        for (int i = 0; i < 8; i++) {
            for (int what = 0; what < 7; what++) {
                same &= call("thing", i, what) && call("buyer", i, what);
            }
        }
        return same;
    }

    private boolean runs(int length) {
        if (!tellSome() || !tell(0, cityText())) {
            return false;
        }
        return actsAndLooks(length) && sameState();
    }

    private boolean actsAndLooks(int length) {
        for (int i = 0; i < length; i++) {
            boolean right = below(25) == 0 ? tellSome() : below(2) == 0 ? act() : look();
            if (!right) {
                return false;
            }
        }
        return true;
    }

    /** Near the last HOUR. */
    private boolean runsLate() {
        return tell(0, cityText()) && goesOn(9999 - below(40), 10000) && actsAndLooks(30) && sameState();
    }

    /** With a TREASURY that is nearly full. */
    private boolean runsRich() {
        return tell(0, dearCityText()) && call("tempted", below(2)) && goesOn(3000, 9000) && actsAndLooks(60)
            && sameState();
    }

    /** YEARS up to that HOUR, or until so much is in the TREASURY. */
    private boolean goesOn(int hour, int treasury) {
        boolean right = true;
        while (right && model.city != null && model.now.hour < hour && model.now.treasury < treasury) {
            right = call("years", Math.min(30, hour - model.now.hour), random.nextLong());
        }
        return right;
    }

    public static void main(String[] args) {
        int most = args.length > 0 ? Integer.parseInt(args[0]) : 400;
        int from = args.length > 1 ? Integer.parseInt(args[1]) : 0;
        for (int seed = from; seed < from + most; seed++) {
            boolean right = new RandomTest(seed).runs(300);
            if (right && seed % 10 == 0) {
                right = new RandomTest(seed).runsRich() && new RandomTest(seed).runsLate();
            }
            if (!right) {
                System.out.println("seed " + seed);
                System.exit(1);
            }
        }
        System.out.println(most + " runs are as due");
    }
}
