import java.util.function.IntPredicate;
import java.util.function.IntUnaryOperator;
import java.util.function.Supplier;
import java.util.function.ToIntFunction;

/** Edges of the promises 1 to 26: texts, what is told, ACTS, DAYS. */
final class EdgesOfCalls {
    static final int HIDDEN = NearlyBought.HIDDEN;

    private EdgesOfCalls() {
    }

    /** Numbers that are not 0 .. n less 1: the nearest ones, and the farthest. */
    static int[] outside(int n) {
        return new int[] {-1, n, -2, n + 1, Integer.MIN_VALUE, Integer.MAX_VALUE, 1 << 16, 1 << 30};
    }

    static void outside(int n, IntUnaryOperator call, int answer) {
        for (int i : outside(n)) {
            Kit.due("with " + i, call.applyAsInt(i), answer);
        }
    }

    private static void falseOutside(int n, IntPredicate call) {
        outside(n, i -> call.test(i) ? 1 : 0, 0);
    }

    /** Without a CITY, but with a LAW, a DAY, a TAPE. */
    static NearlyBought bare() {
        NearlyBought x = new NearlyBought();
        Kit.law(x, "y:7");
        Kit.day(x, "h;p00");
        Kit.feed(x, "t;");
        return x;
    }

    private static void refused(ToIntFunction<NearlyBought> call, int answer, int status) {
        Edge.refused(EdgesOfYears::lived, call, answer, status);
    }

    static void bareRefused(ToIntFunction<NearlyBought> call, int answer, int status) {
        Edge.refused(EdgesOfCalls::bare, call, answer, status);
    }

    private static void tape() {
        Edge.promise(1, "No CITY.", () -> {
            NearlyBought x = new NearlyBought();
            int[] counts = {0, 0, 0, 0, 0, -1, 0, 0, 0, 0, 2, 0, 0, 0};
            for (int what = 0; what < 14; what++) {
                Kit.due("count(" + what + ")", x.count(what), counts[what]);
            }
            Kit.due("no THING", x.thing(0, 0), HIDDEN);
            Kit.due("no BUYER", Kit.throwsNoSuch(x, 0, 0), true);
            Kit.due("all", x.all(0), HIDDEN);
            Kit.due("an empty TAPE", x.fault(0) + x.fault(1) + x.fault(2), 0);
        });
        Edge.promise(2, "Twenty bytes more come to the TAPE (of each number the highest first; bytes of 0 are left out):"
            + " how many it has.", () -> {
                NearlyBought x = new NearlyBought();
                Kit.due("none", x.feed(0, 0, 0, 0, 0), 0);
                Kit.due("the highest first", x.feed(0x703b6820, 0, 0, 0, 0), 4);
                Kit.due("p;h: a digit is missing", x.fault(2), 1);
                x.end(0);
                Kit.due("20", x.feed(0x683b683b, 0x683b683b, 0x683b683b, 0x683b683b, 0x683b6868), 20);
                Kit.due("in that order", x.fault(2), 19);
                x.end(0);
                Kit.due("0 left out", x.feed(0x68000000, 0x003b0000, 0x00006800, 0x0000003b, 0x68000068), 6);
                Kit.due("h;h;hh", x.fault(2), 5);
                x.end(0);
                Kit.due("a number below 0", x.feed(0, 0, -1, 0, 0), 4);
                Kit.due("bytes above 127", x.feed(0x80ff0180, 0, 0, 0, 0), 8);
            });
        Edge.promise(2, "NONE: more than 240.", () -> {
            NearlyBought x = new NearlyBought();
            int full = 0x20202020;
            for (int n = 20; n <= 220; n += 20) {
                Kit.due("feed", x.feed(full, full, full, full, full), n);
            }
            Kit.due("239", x.feed(full, full, full, full, 0x20202000), 239);
            Kit.due("241", x.feed(0, 0x20000020, 0, 0, 0), -1);
            Kit.due("none of it comes", x.count(4), 239);
            Kit.due("240", x.feed(0, 0, 0, 0, 0x00200000), 240);
            Kit.due("no byte more", x.feed(0, 0, 0, 0, 0), 240);
            Kit.due("241", x.feed(0, 0, 0, 0, 1), -1);
            Kit.due("260", x.feed(full, full, full, full, full), -1);
            Kit.due("240 still", x.count(4), 240);
        });
        Edge.promise(3, "The TAPE has its first n bytes alone.", () -> {
            NearlyBought x = new NearlyBought();
            Kit.due("an empty one", x.end(0), true);
            Kit.feed(x, "t;bm5;x");
            Kit.due("all", x.end(7), true);
            Kit.due("all are there", x.fault(0), 6);
            Kit.due("five", x.end(5), true);
            Kit.due("the first five", x.fault(0), -1);
            Kit.due("how many", x.count(4), 5);
            Kit.due("none", x.end(0), true);
            Kit.due("how many", x.count(4), 0);
        });
        Edge.promise(3, "False: n.", () -> {
            NearlyBought x = new NearlyBought();
            Kit.due("1 of none", x.end(1), false);
            Kit.feed(x, "t;b");
            int[] wrong = {-1, 4, 240, 241, Integer.MIN_VALUE, Integer.MAX_VALUE};
            for (int n : wrong) {
                Kit.due("end(" + n + ")", x.end(n), false);
                Kit.due("three still", x.count(4), 3);
            }
        });
    }

    private static void texts() {
        Edge.promise(4, "The FAULT of the TAPE as a CITY (0), a LAW (1), a DAY (2). NONE: none.", () -> {
            String[] right = {"t;b", "y:1", "h;b1"};
            for (int told = 0; told < 3; told++) {
                NearlyBought x = new NearlyBought();
                Kit.feed(x, right[told]);
                for (int sort = 0; sort < 3; sort++) {
                    int at = sort == 0 ? 0 : sort == 1 ? 0 : told == 1 ? 1 : 0;
                    Kit.due("a text of " + told + " as " + sort, x.fault(sort), sort == told ? -1 : at);
                }
                Kit.due("the TAPE stays", x.count(4), right[told].length());
            }
        });
        Edge.promise(4, "-2: no such sort.", () -> outside(3, new NearlyBought()::fault, -2));
        Edge.promise(5, "The TAPE (empty then) is the CITY (HOUR 0; all that was of another one, SEEN, too, is gone but LAWS,"
            + " which holds, DAYS, TEMPTED, STATUS): how many THINGS;", () -> {
                NearlyBought x = EdgesOfYears.lived();
                x.tempted(7);
                Kit.due("how many THINGS", Kit.text(x, 0, "t;t;b"), 2);
                int[] counts = {2, 1, 2, 1, 0, 1, 0, 2, 0, 0, 7, 0, 0, 0};
                for (int what = 0; what < 14; what++) {
                    Kit.due("count(" + what + ")", x.count(what), counts[what]);
                }
                Kit.due("STATUS", x.status(0), 1);
                Kit.due("the LAW holds", x.liking(0, 1), 12);
                Kit.due("the DAY", x.step(0, 2, 0), 4);
                Kit.due("AWAY", x.all(11), 0);
                Kit.due("FREE", x.all(7), 3);
                Kit.due("HOLDERS", x.all(6), 0);
                Kit.due("no LOG", x.log(0, 0), -1);
                Kit.due("no IMAGE", x.back(), -1);
                Kit.due("no ACT", x.undo(), -1);
                Kit.due("PURSE as told", x.buyer(0, 0), 30);
                Kit.due("8 THINGS", Kit.text(x, 0, "t;t;t;t;t;t;t;t;b"), 8);
                anotherCity();
            });
        Edge.promise(5, "a LAW, a DAY: its number.", () -> {
            NearlyBought x = new NearlyBought();
            for (int i = 0; i < 4; i++) {
                Kit.due("a LAW", Kit.text(x, 1, "y:1" + i), i);
                Kit.due("the TAPE is empty then", x.count(4), 0);
                Kit.due("a DAY", Kit.text(x, 2, "b" + i), i);
                Kit.due("the TAPE is empty then", x.count(4), 0);
            }
            Kit.text(x, 0, "t;b");
            for (int i = 0; i < 4; i++) {
                x.law(i);
                Kit.due("that LAW", x.liking(0, 0), 10 + i);
                Kit.due("that DAY", x.step(i, 0, 1), i);
            }
            // What had a FAULT ahead of it leaves nothing in it.
            NearlyBought y = Kit.city("t;b");
            Kit.text(y, 1, "y:50;y:1=");
            Kit.text(y, 2, "y7;y8;y9;y");
            Kit.fault(y, 1, "y:60");
            Kit.fault(y, 2, "h;h;h");
            Kit.due("a LAW", Kit.text(y, 1, "y:70"), 0);
            Kit.due("a DAY", Kit.text(y, 2, "b3"), 0);
            y.law(0);
            Kit.due("that LAW", y.liking(0, 0), 70);
            Kit.due("that DAY", y.step(0, 0, 0) * 10 + y.step(0, 0, 1), 13);
            Kit.due("one STEP", y.step(0, 1, 0), HIDDEN);
        });
        Edge.promise(5, "NONE: a FAULT,", () -> {
            String[] wrong = {"", "t", "y:", "p0"};
            for (String text : wrong) {
                for (int sort = 0; sort < 3; sort++) {
                    NearlyBought x = bare();
                    Kit.due("\"" + text + "\" as " + sort, Kit.text(x, sort, text), -1);
                    Kit.due("the TAPE stays", x.count(4), text.length());
                    Kit.due("no more texts", x.count(0) * 100 + x.count(2) * 10 + x.count(3), 11);
                }
            }
        });
        Edge.promise(5, "no such sort,", () -> {
            String[] right = {"t;b", "y:1", "h"};
            for (String text : right) {
                NearlyBought x = bare();
                Kit.feed(x, text);
                outside(3, x::text, -1);
                Kit.due("the TAPE stays", x.count(4), text.length());
            }
        });
        Edge.promise(5, "there are four.", () -> {
            NearlyBought x = Kit.city("t;b");
            for (int i = 0; i < 4; i++) {
                Kit.text(x, 1, "y:" + i);
                Kit.text(x, 2, "b" + i);
            }
            Kit.due("a fifth LAW", Kit.text(x, 1, "y:9"), -1);
            Kit.due("the TAPE stays", x.count(4), 3);
            Kit.due("a fifth DAY", Kit.text(x, 2, "b9"), -1);
            Kit.due("the TAPE stays", x.count(4), 2);
            Kit.due("LAWS", x.count(2), 4);
            Kit.due("DAYS", x.count(3), 4);
            x.law(3);
            Kit.due("the fourth LAW", x.liking(0, 0), 3);
            Kit.due("the fourth DAY", x.step(3, 0, 1), 3);
            Kit.due("another CITY", Kit.text(x, 0, "t;t;b"), 2);
        });
    }

    /** What was HELD, SOLD, owed and paid in a CITY is not so in another. */
    private static void anotherCity() {
        NearlyBought x = Kit.city("sr8y2;tp9w9;tp8;tp7;b;b");
        Kit.law(x, "y:0");
        Edge.touch(x, 0, 1);
        x.pick(0, 0);
        x.pick(1, 2);
        x.buy(1);
        Edge.hours(x, 3);
        Edge.touch(x, 1, 1);
        Kit.due("HELD ahead", x.thing(0, 5), 3);
        Kit.due("SOLD ahead", x.all(8), 4);
        Kit.due("TREASURY ahead", x.count(8), 8);
        Kit.text(x, 0, "t;t;t;b;b;b");
        for (int t = 0; t < 3; t++) {
            thing(x, t, 20, 2, 0, -1, 0, 0);
        }
        for (int b = 0; b < 3; b++) {
            buyer(x, b, 30, 5, 4, 0, -1, 0, 0);
        }
        Kit.due("SOLD, DUE, AFRAID", x.all(8) + x.all(10) + x.all(9), 0);
        Kit.due("TREASURY, BILLS", x.count(8) + x.count(9), 0);
        Kit.due("each can be PICKED UP", x.pick(0, 2) + x.pick(1, 0), 0);
    }

    private static void told() {
        Edge.promise(6, "Of a THING: 0 PRICE, 1 WEIGHT, 2 SHOP, 3 the BUYER who HOLDS it or to whom it is SOLD (NONE),"
            + " 4 whether SOLD (1, 0), 5 for how many HOURS it was HELD (0, if it is not).", () -> {
                NearlyBought x = Kit.city("tp21w9s3;t;b;b");
                Kit.law(x, "y:0");
                thing(x, 0, 21, 9, 3, -1, 0, 0);
                x.pick(1, 0);
                x.hour();
                thing(x, 0, 21, 9, 3, 1, 0, 1);
                x.putBack(1);
                thing(x, 0, 21, 9, 3, -1, 0, 0);
                x.pick(0, 0);
                x.hour();
                x.buy(0);
                thing(x, 0, 21, 9, 3, 0, 1, 0);
                thing(x, 1, 20, 2, 0, -1, 0, 0);
            });
        Edge.promise(6, "HIDDEN: no such ones.", () -> {
            NearlyBought x = Kit.city("t;t;b;b;b");
            outside(2, t -> x.thing(t, 0), HIDDEN);
            outside(6, what -> x.thing(1, what), HIDDEN);
            outside(8, t -> Kit.city("t;t;t;t;t;t;t;t;b").thing(t, 5), HIDDEN);
            Kit.due("no CITY", bare().thing(0, 0), HIDDEN);
        });
        Edge.promise(7, "Of a BUYER: 0 PURSE, 1 DESIRE, 2 NERVE, 3 KIND, 4 what he HOLDS (NONE), 5 DUE, 6 how many BILLS, as now.", () -> {
            NearlyBought x = Kit.city("sr8;tp7;tp9;b;bm31d6n3k1;b");
            buyer(x, 1, 31, 6, 3, 1, -1, 0, 0);
            x.pick(1, 1);
            buyer(x, 1, 31, 6, 3, 1, 1, 0, 0);
            x.putBack(1);
            buyer(x, 1, 31, 6, 3, 1, -1, 4, 1);
            Edge.touch(x, 1, 0);
            x.gift(1, 9);
            buyer(x, 1, 40, 6, 3, 1, -1, 7, 2);
            buyer(x, 0, 30, 5, 4, 0, -1, 0, 0);
        });
        Edge.promise(7, "NoSuchElementException: no such ones.", () -> {
            NearlyBought x = Kit.city("t;t;t;b;b");
            outside(2, b -> Kit.throwsNoSuch(x, b, 0) ? 1 : 0, 1);
            outside(7, what -> Kit.throwsNoSuch(x, 1, what) ? 1 : 0, 1);
            outside(6, b -> Kit.throwsNoSuch(Kit.city("t;b;b;b;b;b;b"), b, 6) ? 1 : 0, 1);
            for (int what = 0; what < 7; what++) {
                Kit.due("such a one", Kit.throwsNoSuch(x, 1, what), false);
            }
            Kit.due("no CITY", Kit.throwsNoSuch(bare(), 0, 0), true);
        });
        Edge.promise(8, "LIKING now.", () -> {
            NearlyBought x = Kit.city("tw1;tw9;bd0;bd9");
            Kit.due("0 for 0", x.liking(0, 0), 1);
            Kit.due("0 for 1", x.liking(0, 1), 9);
            Kit.due("1 for 0", x.liking(1, 0), 37);
            Kit.law(x, "y:h+m");
            Kit.due("now", x.liking(0, 0), 30);
            x.hour();
            x.gift(0, 5);
            Kit.due("now", x.liking(0, 0), 36);
        });
        Edge.promise(8, "NONE: no such BUYER, THING.", () -> {
            NearlyBought x = Kit.city("t;t;b;b;b");
            outside(3, b -> x.liking(b, 0), -1);
            outside(2, t -> x.liking(0, t), -1);
            Kit.due("no CITY", bare().liking(0, 0), -1);
        });
        Edge.promise(9, "Of a BUYER's i-th BILL (the oldest first): 0 the THING, 1 the HOUR, 2 what is due.", () -> {
            NearlyBought x = Kit.city("sr8y30;tp7;tp9;tp8;b;b");
            Kit.law(x, "y:0");
            Edge.touch(x, 1, 2);
            Edge.touch(x, 0, 0);
            x.hour();
            Edge.touch(x, 1, 1);
            int[][] bills = {{2, 0, 8}, {1, 1, 9}};
            for (int i = 0; i < 2; i++) {
                for (int what = 0; what < 3; what++) {
                    Kit.due("bill(1, " + i + ", " + what + ")", x.bill(1, i, what), bills[i][what]);
                }
            }
            Kit.due("another's", x.bill(0, 0, 2), 7);
        });
        Edge.promise(9, "NONE: no such ones.", () -> {
            NearlyBought x = Kit.city("sr8;tp7;b;b");
            Edge.touch(x, 0, 0);
            Edge.touch(x, 0, 0);
            Edge.touch(x, 1, 0);
            outside(2, b -> x.bill(b, 0, 0), -1);
            outside(2, i -> x.bill(0, i, 0), -1);
            outside(1, i -> x.bill(1, i, 0), -1);
            outside(3, what -> x.bill(0, 1, what), -1);
            Kit.due("no CITY", bare().bill(0, 0, 0), -1);
        });
        Edge.promise(10, "The LAW that holds (NONE: none).", () -> {
            NearlyBought x = Kit.city("t;b");
            Kit.due("none at first", x.count(5), -1);
            Kit.text(x, 1, "y:7");
            Kit.text(x, 1, "y:8");
            Kit.due("told, but none holds", x.count(5), -1);
            Kit.due("law(1)", x.law(1), true);
            Kit.due("LIKING", x.liking(0, 0), 8);
            Kit.due("law(0)", x.law(0), true);
            Kit.due("LIKING", x.liking(0, 0), 7);
            Kit.due("the same again", x.law(0), true);
            Kit.due("law(NONE)", x.law(-1), true);
            Kit.due("LIKING", x.liking(0, 0), 22);
            Kit.due("which", x.count(5), -1);
        });
        Edge.promise(10, "False: no such one.", () -> {
            NearlyBought x = new NearlyBought();
            Kit.due("law(0) of none", x.law(0), false);
            Kit.due("law(NONE) of none", x.law(-1), true);
            Kit.law(x, "y:7");
            int[] wrong = {1, 4, -2, Integer.MIN_VALUE, Integer.MAX_VALUE};
            for (int law : wrong) {
                Kit.due("law(" + law + ")", x.law(law), false);
                Kit.due("it holds on", x.count(5), 0);
            }
            Kit.due("on the TAPE alone", Kit.fault(x, 1, "y:8"), -1);
            Kit.due("no such LAW", x.law(1), false);
        });
        Edge.promise(11, "TEMPTED (0 .. 9).", () -> {
            for (int v = 0; v <= 9; v++) {
                NearlyBought x = new NearlyBought();
                Kit.due("tempted(" + v + ")", x.tempted(v), v != 2);
                Kit.due("TEMPTED", x.count(10), v);
            }
        });
        Edge.promise(11, "False: out of bounds,", () -> {
            NearlyBought x = new NearlyBought();
            falseOutside(10, x::tempted);
            Kit.due("TEMPTED", x.count(10), 2);
        });
        Edge.promise(11, "it is so.", () -> {
            NearlyBought x = new NearlyBought();
            Kit.due("2 at first", x.tempted(2), false);
            Kit.due("9", x.tempted(9), true);
            Kit.due("9 again", x.tempted(9), false);
            Kit.due("TEMPTED", x.count(10), 9);
        });
    }

    private static void thing(NearlyBought x, int t, int... want) {
        for (int what = 0; what < 6; what++) {
            Kit.due("thing(" + t + ", " + what + ")", x.thing(t, what), want[what]);
        }
    }

    private static void buyer(NearlyBought x, int b, int... want) {
        for (int what = 0; what < 7; what++) {
            Kit.due("buyer(" + b + ", " + what + ")", x.buyer(b, what), want[what]);
        }
    }

    private static void picks() {
        Edge.promise(12, "PICKED UP: LIKING.", () -> {
            Kit.due("LIKING", Kit.city("tw9;bd9").pick(0, 0), 45);
            Kit.due("LIKING 0", Kit.city("tw0;bd0").pick(0, 0), 0);
        });
        Edge.promise(12, "NONE: no such BUYER, THING (STATUS 0),", () -> {
            for (int i : outside(4)) {
                refused(x -> x.pick(i, 3), -1, 0);
                refused(x -> x.pick(3, i), -1, 0);
            }
            bareRefused(x -> x.pick(0, 0), -1, 0);
        });
        Edge.promise(12, "not FREE (2),", () -> {
            refused(x -> x.pick(3, 0), -1, 2);
            refused(x -> x.pick(0, 0), -1, 2);
            Supplier<NearlyBought> sold = () -> {
                NearlyBought x = Kit.city("t;t;b");
                x.pick(0, 0);
                x.buy(0);
                return x;
            };
            Edge.refused(sold, x -> x.pick(0, 0), -1, 2);
        });
        Edge.promise(12, "he HOLDS one (3).", () -> refused(x -> x.pick(0, 3), -1, 3));
        Edge.promise(13, "Put BACK: what is due by the BILL written (0: none).", () -> {
            NearlyBought x = Kit.city("sr8;tp99;tp1;b;bk1;bk2");
            Kit.due("99", Edge.touch(x, 0, 0), 99);
            Kit.due("49", Edge.touch(x, 1, 0), 49);
            Kit.due("half of 1", Edge.touch(x, 1, 1), 0);
            Kit.due("a thief", Edge.touch(x, 2, 0), 0);
            Kit.due("BILLS", x.count(9), 2);
        });
        Edge.promise(13, "NONE: no such BUYER (STATUS 0),", () -> {
            for (int i : outside(4)) {
                refused(x -> x.putBack(i), -1, 0);
            }
            bareRefused(x -> x.putBack(0), -1, 0);
        });
        Edge.promise(13, "he HOLDS none (2).", () -> refused(x -> x.putBack(3), -1, 2));
        Edge.promise(14, "HANDED on: the THING.", () -> {
            NearlyBought x = Kit.city("t;t;t;t;t;t;t;t;b;b");
            x.pick(0, 7);
            Kit.due("7", x.hand(0, 1), 7);
            x.pick(0, 0);
            x.putBack(1);
            Kit.due("0", x.hand(0, 1), 0);
        });
        Edge.promise(14, "NONE: no such BUYERS (STATUS 0),", () -> {
            for (int i : outside(4)) {
                refused(x -> x.hand(i, 3), -1, 0);
                refused(x -> x.hand(0, i), -1, 0);
                refused(x -> x.hand(i, i), -1, 0);
            }
            bareRefused(x -> x.hand(0, 0), -1, 0);
        });
        Edge.promise(14, "alike (1),", () -> {
            refused(x -> x.hand(0, 0), -1, 1);
            refused(x -> x.hand(3, 3), -1, 1);
        });
        Edge.promise(14, "the first HOLDS none (2),", () -> {
            refused(x -> x.hand(3, 0), -1, 2);
            Edge.refused(() -> Kit.city("t;b;b"), x -> x.hand(0, 1), -1, 2);
        });
        Edge.promise(14, "the second HOLDS one (3).", () -> refused(x -> x.hand(0, 1), -1, 3));
        Edge.promise(15, "BOUGHT: how many BILLS were struck out.", () -> {
            for (int n = 0; n <= 25; n++) {
                NearlyBought x = Kit.city("t;b");
                for (int i = 0; i < n; i++) {
                    Edge.touch(x, 0, 0);
                }
                x.pick(0, 0);
                Kit.due(n + " BILLS", x.buy(0), Math.min(24, n));
                Kit.due("none is left", x.count(9), 0);
            }
        });
        Edge.promise(15, "NONE: no such BUYER (STATUS 0),", () -> {
            for (int i : outside(4)) {
                refused(x -> x.buy(i), -1, 0);
            }
            bareRefused(x -> x.buy(0), -1, 0);
        });
        Edge.promise(15, "he HOLDS none (2),", () -> refused(x -> x.buy(3), -1, 2));
        Edge.promise(15, "too little (4).", () -> {
            Supplier<NearlyBought> poor = () -> {
                NearlyBought x = Kit.city("tp50;bm49");
                x.pick(0, 0);
                return x;
            };
            Edge.refused(poor, x -> x.buy(0), -1, 4);
        });
    }

    private static void acts() {
        Edge.promise(16, "An HOUR: who HOLDS one then (bits).", () -> {
            NearlyBought x = Kit.city("t;t;t;t;t;t;t;t;b;b;b;b;b;b");
            Kit.due("all six", x.hour(), 63);
            NearlyBought y = Kit.city("t;bd0;b");
            y.pick(1, 0);
            Kit.due("he buys it, none HOLDS one", y.hour(), 0);
            Kit.due("the second", Kit.city("tw0;bd0;b").hour(), 2);
        });
        Edge.promise(16, "NONE: no CITY (STATUS 0),", () -> bareRefused(NearlyBought::hour, -1, 0));
        Edge.promise(16, "beyond 9,999 (5).",
            () -> Edge.refused(() -> Edge.late("t;b", "y:0", 0), NearlyBought::hour, -1, 5));
        Edge.promise(17, "The CLERK of a SHOP looks AWAY, or not: whether AWAY then (1, 0).", () -> {
            NearlyBought x = Kit.city("t;b");
            for (int shop = 0; shop < 4; shop++) {
                Kit.due("AWAY", x.clerk(shop), 1);
            }
            for (int shop = 3; shop >= 0; shop--) {
                Kit.due("not any more", x.clerk(shop), 0);
            }
        });
        Edge.promise(17, "NONE: no CITY (STATUS 0),", () -> bareRefused(x -> x.clerk(0), -1, 0));
        Edge.promise(17, "no such SHOP (1).", () -> {
            for (int i : outside(4)) {
                refused(x -> x.clerk(i), -1, 1);
            }
        });
        Edge.promise(18, "RATE: how it was.", () -> {
            NearlyBought x = Kit.city("sr8;t;b");
            Kit.due("8", x.rate(0), 8);
            Kit.due("0", x.rate(8), 0);
            Kit.due("RATE", x.count(7), 8);
        });
        Edge.promise(18, "NONE: no CITY (STATUS 0),", () -> bareRefused(x -> x.rate(1), -1, 0));
        Edge.promise(18, "out of bounds (1),", () -> {
            for (int i : outside(9)) {
                refused(x -> x.rate(i), -1, 1);
            }
        });
        Edge.promise(18, "it is so (2).", () -> {
            refused(x -> x.rate(5), -1, 2);
            Edge.refused(() -> Kit.city("sr0;t;b"), x -> x.rate(0), -1, 2);
            Edge.refused(() -> Kit.city("sr8;t;b"), x -> x.rate(8), -1, 2);
        });
        Edge.promise(19, "A PURSE gets n: PURSE then.", () -> {
            NearlyBought x = Kit.city("t;bm0;bm99");
            Kit.due("1", x.gift(0, 1), 1);
            Kit.due("51", x.gift(0, 50), 51);
            Kit.due("149", x.gift(1, 50), 149);
        });
        Edge.promise(19, "NONE: no such BUYER (STATUS 0),", () -> {
            for (int i : outside(4)) {
                refused(x -> x.gift(i, 1), -1, 0);
            }
            bareRefused(x -> x.gift(0, 1), -1, 0);
        });
        Edge.promise(19, "out of bounds, above 999 (1).", () -> {
            for (int i : outside(50)) {
                int n = i + 1;
                refused(x -> x.gift(0, n), -1, 1);
            }
            Supplier<NearlyBought> rich = () -> {
                NearlyBought x = Kit.city("t;bm99");
                Edge.give(x, 0, 900);
                return x;
            };
            Edge.refused(rich, x -> x.gift(0, 1), -1, 1);
            Edge.refused(rich, x -> x.gift(0, 50), -1, 1);
        });
        Edge.promise(20, "YEARS: the HOUR.", () -> {
            NearlyBought x = Kit.city("t;b");
            Kit.due("30", x.years(30, 1), 30);
            Kit.due("31", x.years(1, 1), 31);
            NearlyBought late = Edge.late("t;b", "y:0", 1);
            Kit.due("9,999", late.years(1, 1), 9999);
        });
        Edge.promise(20, "NONE: no CITY,", () -> bareRefused(x -> x.years(1, 1), -1, -1));
        Edge.promise(20, "out of bounds,", () -> {
            for (int i : outside(30)) {
                int n = i + 1;
                refused(x -> x.years(n, 1), -1, -1);
            }
        });
        Edge.promise(20, "beyond 9,999.", () -> {
            Edge.refused(() -> Edge.late("t;b", "y:0", 0), x -> x.years(1, 1), -1, -1);
            Edge.refused(() -> Edge.late("t;b", "y:0", 29), x -> x.years(30, 1), -1, -1);
            Kit.due("up to it", Edge.late("t;b", "y:0", 29).years(29, 1), 9999);
        });
    }

    private static void keeping() {
        Edge.promise(21, "STATUS.", () -> {
            NearlyBought x = Kit.city("sr2;tp31;t;b;b");
            x.pick(2, 0);
            x.clerk(4);
            x.rate(2);
            x.pick(0, 0);
            x.pick(0, 1);
            x.buy(0);
            x.buy(0);
            int[] want = {1, 1, 1, 1, 2, 0};
            for (int what = 0; what < 6; what++) {
                Kit.due("status(" + what + ")", x.status(what), want[what]);
            }
        });
        Edge.promise(21, "NONE: no such what.", () -> outside(6, new NearlyBought()::status, -1));
        Edge.promise(22, "The latest ACT is UNDONE: how many still can be.", () -> {
            NearlyBought x = Kit.city("t;bm0");
            x.gift(0, 1);
            x.gift(0, 2);
            Kit.due("one", x.undo(), 1);
            Kit.due("the latest", x.buyer(0, 0), 1);
            x.gift(0, 4);
            Kit.due("one", x.undo(), 1);
            Kit.due("none", x.undo(), 0);
            Kit.due("PURSE", x.buyer(0, 0), 0);
        });
        Edge.promise(22, "NONE: none.", () -> {
            bareRefused(NearlyBought::undo, -1, -1);
            Edge.refused(() -> Kit.city("t;b"), NearlyBought::undo, -1, -1);
        });
        Edge.promise(23, "LOG, the latest (i 0), the one ahead of it (1) ..: 0 HOLDERS (bits), 1 BILLS, 2 TREASURY.", () -> {
            NearlyBought x = Kit.city("sr8y3i0;tp99w0;b;bd0n9");
            x.hour();
            x.hour();
            Kit.due("HOLDERS", x.log(0, 0), 1);
            x.hour();
            int[][] logged = {{0, 0, 30}, {1, 0, 0}, {1, 0, 0}};
            for (int i = 0; i < 3; i++) {
                for (int what = 0; what < 3; what++) {
                    Kit.due("log(" + i + ", " + what + ")", x.log(i, what), logged[i][what]);
                }
            }
        });
        Edge.promise(23, "NONE: no such ones.", () -> {
            Kit.due("none", Kit.city("t;b").log(0, 0), -1);
            Kit.due("no CITY", bare().log(0, 0), -1);
            NearlyBought x = Kit.city("t;b");
            Edge.hours(x, 3);
            outside(3, i -> x.log(i, 0), -1);
            outside(3, what -> x.log(2, what), -1);
            Edge.hours(x, 70);
            outside(60, i -> x.log(i, 2), -1);
            Kit.due("the 60th", x.log(59, 2) >= 0, true);
        });
        Edge.promise(24, "A STEP of a DAY: 0 what (0 p, 1 b, 2 g, 3 y, 4 h), 1 its digit (NONE), 2 the second one (NONE).", () -> {
            NearlyBought x = new NearlyBought();
            Kit.day(x, "h");
            Kit.day(x, "p09;b8;g70;y6;h");
            int[][] steps = {{0, 0, 9}, {1, 8, -1}, {2, 7, 0}, {3, 6, -1}, {4, -1, -1}};
            for (int i = 0; i < 5; i++) {
                for (int what = 0; what < 3; what++) {
                    Kit.due("step(1, " + i + ", " + what + ")", x.step(1, i, what), steps[i][what]);
                }
            }
        });
        Edge.promise(24, "HIDDEN: no such ones.", () -> {
            NearlyBought x = new NearlyBought();
            Kit.due("no DAY", x.step(0, 0, 0), HIDDEN);
            Kit.day(x, "h;h;h");
            Kit.day(x, "b1");
            outside(2, day -> x.step(day, 0, 0), HIDDEN);
            outside(3, i -> x.step(0, i, 0), HIDDEN);
            outside(1, i -> x.step(1, i, 0), HIDDEN);
            outside(3, what -> x.step(1, 0, what), HIDDEN);
            // What is on the TAPE alone is no DAY.
            Kit.due("right as it is", Kit.fault(x, 2, "b1;b2"), -1);
            outside(2, day -> x.step(day, 0, 0), HIDDEN);
        });
        Edge.promise(25, "RUN: behind how many (0; NONE: all can be), DUE (1).", () -> {
            NearlyBought x = Kit.city("sr8;tp9;b");
            Kit.day(x, "p00;b0");
            Kit.day(x, "p00;b0;y0");
            Kit.day(x, "y0");
            int[] behind = {-1, 2, 0};
            int[] due = {9, 9, 0};
            for (int day = 0; day < 3; day++) {
                Kit.due("behind how many", x.run(day, 0), behind[day]);
                Kit.due("DUE", x.run(day, 1), due[day]);
            }
        });
        Edge.promise(25, "HIDDEN: no such ones,", () -> {
            NearlyBought x = Kit.city("t;b");
            Kit.due("no DAY", x.run(0, 0), HIDDEN);
            Kit.day(x, "h");
            Kit.day(x, "h");
            outside(2, day -> x.run(day, 0), HIDDEN);
            outside(2, what -> x.run(1, what), HIDDEN);
            Kit.due("on the TAPE alone", Kit.fault(x, 2, "h"), -1);
            outside(2, day -> x.run(day, 0), HIDDEN);
        });
        Edge.promise(25, "no CITY.", () -> {
            bareRefused(x -> x.run(0, 0), HIDDEN, -1);
            bareRefused(x -> x.run(0, 1), HIDDEN, -1);
        });
        Edge.promise(26, "DO: how many STEPS were done.", () -> {
            NearlyBought x = Kit.city("t;b");
            Kit.day(x, "p00;b0;p00;b0;p00;b0;p00;b0;p00;b0;p00;b0;p00;b0;p00;b0");
            Kit.day(x, "p00;p00");
            Kit.day(x, "p00");
            Kit.due("16", x.perform(0), 16);
            Kit.due("1", x.perform(1), 1);
            Kit.due("0", x.perform(2), 0);
        });
        Edge.promise(26, "NONE: no such DAY,", () -> {
            for (int i : outside(1)) {
                refused(x -> x.perform(i), -1, -1);
            }
            NearlyBought y = Kit.city("t;b");
            Kit.due("on the TAPE alone", Kit.fault(y, 2, "h"), -1);
            Kit.due("no such DAY", y.perform(0), -1);
            Kit.due("HOUR", y.count(6), 0);
        });
        Edge.promise(26, "no CITY.", () -> bareRefused(x -> x.perform(0), -1, -1));
    }

    static void run() {
        tape();
        texts();
        told();
        picks();
        acts();
        keeping();
    }
}
