import java.util.TreeSet;

/**
 * FAULTS found another way than in the class: all readings of a text are tried side by side, each as a set
 * of places where it may end; the farthest place at which a sign was looked for in vain is the FAULT.
 */
final class Recognizer {
    private final String text;
    private int farthest = 0;

    private Recognizer(String text) {
        this.text = text;
    }

    static int fault(int sort, String text) {
        Recognizer r = new Recognizer(text);
        boolean whole = sort == 0 ? r.city() : sort == 1 ? r.law() : r.day();
        return whole ? -1 : r.farthest;
    }

    private int behindBlanks(int at) {
        while (at < text.length() && text.charAt(at) == ' ') {
            at++;
        }
        return at;
    }

    private void missed(int at) {
        farthest = Math.max(farthest, at);
    }

    private boolean digitAt(int at) {
        return at < text.length() && text.charAt(at) >= '0' && text.charAt(at) <= '9';
    }

    /** The place behind one of these signs, or -1. */
    private int sign(int from, String signs) {
        int at = behindBlanks(from);
        if (at < text.length() && signs.indexOf(text.charAt(at)) >= 0) {
            return at + 1;
        }
        missed(at);
        return -1;
    }

    private int number(int from, int digits, int low, int high) {
        int at = behindBlanks(from);
        int end = at;
        while (digitAt(end)) {
            end++;
        }
        if (end == at) {
            missed(at);
            return -1;
        }
        if (end - at > digits) {
            missed(at + digits);
            return -1;
        }
        int value = Integer.parseInt(text.substring(at, end));
        if (value < low || value > high) {
            missed(end - 1);
            return -1;
        }
        return end;
    }

    private boolean city() {
        return clauses(0, 0, 0, 0);
    }

    private boolean clauses(int from, int rules, int things, int buyers) {
        int at = sign(from, (rules < 1 ? "s" : "") + (things < 8 ? "t" : "") + (buyers < 6 ? "b" : ""));
        if (at < 0) {
            return false;
        }
        char what = text.charAt(at - 1);
        String[] items = what == 's' ? new String[] {"r", "0", "8", "h", "0", "9", "y", "2", "30", "i", "0", "30"}
            : what == 't' ? new String[] {"p", "1", "99", "w", "0", "9", "s", "0", "3"}
            : new String[] {"m", "0", "99", "d", "0", "9", "n", "0", "9", "k", "0", "2"};
        rules += what == 's' ? 1 : 0;
        things += what == 't' ? 1 : 0;
        buyers += what == 'b' ? 1 : 0;
        String left = "";
        for (int i = 0; i < items.length; i += 3) {
            left += items[i];
        }
        while (true) {
            int next = sign(at, left);
            if (next < 0) {
                break;
            }
            String letter = text.substring(next - 1, next);
            left = left.replace(letter, "");
            int i = 0;
            while (!items[i].equals(letter)) {
                i += 3;
            }
            at = number(next, 2, Integer.parseInt(items[i + 1]), Integer.parseInt(items[i + 2]));
            if (at < 0) {
                return false;
            }
        }
        if (behindBlanks(at) == text.length() && things > 0 && buyers > 0) {
            return true;
        }
        int next = sign(at, ";");
        return next >= 0 && clauses(next, rules, things, buyers);
    }

    private boolean day() {
        int at = 0;
        for (int n = 1; ; n++) {
            at = sign(at, "pbgyh");
            if (at < 0) {
                return false;
            }
            char what = text.charAt(at - 1);
            int digits = what == 'h' ? 0 : what == 'b' || what == 'y' ? 1 : 2;
            for (int i = 0; i < digits; i++) {
                at = sign(at, "0123456789");
                if (at < 0) {
                    return false;
                }
            }
            if (behindBlanks(at) == text.length()) {
                return true;
            }
            at = sign(at, n < 16 ? ";" : "");
            if (at < 0) {
                return false;
            }
        }
    }

    private interface Reading {
        TreeSet<Integer> from(int at);
    }

    private boolean law() {
        TreeSet<Integer> ends = list(0, ";", this::clause);
        for (int end : ends) {
            if (behindBlanks(end) == text.length()) {
                return true;
            }
        }
        return false;
    }

    private TreeSet<Integer> of(int at) {
        TreeSet<Integer> one = new TreeSet<>();
        if (at >= 0) {
            one.add(at);
        }
        return one;
    }

    private TreeSet<Integer> then(TreeSet<Integer> places, Reading next) {
        TreeSet<Integer> ends = new TreeSet<>();
        for (int place : places) {
            ends.addAll(next.from(place));
        }
        return ends;
    }

    private TreeSet<Integer> list(int from, String between, Reading part) {
        TreeSet<Integer> ends = new TreeSet<>();
        TreeSet<Integer> fresh = part.from(from);
        while (!fresh.isEmpty()) {
            ends.addAll(fresh);
            TreeSet<Integer> more = then(then(fresh, at -> of(sign(at, between))), part);
            more.removeAll(ends);
            fresh = more;
        }
        return ends;
    }

    private TreeSet<Integer> clause(int from) {
        TreeSet<Integer> begun = then(of(sign(from, "y")), at -> of(sign(at, ":")));
        TreeSet<Integer> ends = then(begun, at -> sum(at, 0));
        TreeSet<Integer> asked = then(then(begun, at -> condition(at, 0)), at -> of(sign(at, "?")));
        ends.addAll(then(asked, at -> sum(at, 0)));
        return ends;
    }

    private TreeSet<Integer> condition(int from, int depth) {
        return list(from, "|", at -> list(at, "&", place -> unit(place, depth)));
    }

    private TreeSet<Integer> deeper(int from, String sign, int depth, Reading inside) {
        int at = behindBlanks(from);
        if (depth == 6) {
            missed(at);
            return new TreeSet<>();
        }
        return then(of(sign(from, sign)), inside);
    }

    private TreeSet<Integer> unit(int from, int depth) {
        TreeSet<Integer> ends = new TreeSet<>(deeper(from, "!", depth, at -> unit(at, depth + 1)));
        ends.addAll(then(deeper(from, "(", depth, at -> condition(at, depth + 1)), at -> of(sign(at, ")"))));
        TreeSet<Integer> left = then(sum(from, depth), at -> of(sign(at, "=<>")));
        ends.addAll(then(left, at -> sum(at, depth)));
        return ends;
    }

    private TreeSet<Integer> sum(int from, int depth) {
        return list(from, "+-", at -> list(at, "*/", place -> atom(place, depth)));
    }

    private TreeSet<Integer> atom(int from, int depth) {
        TreeSet<Integer> ends = new TreeSet<>();
        ends.addAll(of(sign(from, "pwdmsh")));
        ends.addAll(of(number(from, 4, 0, 9999)));
        ends.addAll(then(deeper(from, "[", depth, at -> sum(at, depth + 1)), at -> of(sign(at, "]"))));
        return ends;
    }
}
