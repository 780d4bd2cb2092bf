/** Edges of the promises 27 to 43: what would be, guesses, games, the whole, images, counts. */
final class EdgesOfAsking {
    private static final int HIDDEN = NearlyBought.HIDDEN;

    private EdgesOfAsking() {
    }

    /** Four THINGS, four BUYERS; 0 HOLDS 0, 1 has bought 1. */
    private static NearlyBought city() {
        NearlyBought x = Kit.city("tp30;tp12;tp50;tp40;bm40;bm60k1;bk2n9;b");
        x.pick(0, 0);
        x.pick(1, 1);
        x.buy(1);
        return x;
    }

    private static void ahead() {
        Edge.promise(27, "TREASURY.", () -> {
            NearlyBought x = Kit.city("sr8y2i0;tp9;b");
            Kit.law(x, "y:0");
            Edge.touch(x, 0, 0);
            Kit.due("now", x.treasury(0), 0);
            Kit.due("at MICHAELMAS", x.treasury(2), 9);
            Edge.hours(x, 2);
            Kit.due("now", x.treasury(0), 9);
        });
        Edge.promise(27, "NONE: no CITY,", () -> EdgesOfCalls.bareRefused(x -> x.treasury(0), -1, -1));
        Edge.promise(27, "out of bounds.", () -> EdgesOfCalls.outside(61, city()::treasury, -1));
        Edge.promise(28, "PURSE.", () -> {
            NearlyBought x = Kit.city("sy2i7;tw0;bd0;bd0m0");
            Kit.due("now", x.purse(1, 0), 0);
            Kit.due("at MICHAELMAS", x.purse(1, 2), 7);
            Kit.due("another's", x.purse(0, 2), 37);
        });
        Edge.promise(28, "NONE: no such BUYER,", () -> {
            NearlyBought x = city();
            EdgesOfCalls.outside(4, b -> x.purse(b, 0), -1);
            EdgesOfCalls.bareRefused(y -> y.purse(0, 0), -1, -1);
        });
        Edge.promise(28, "out of bounds.", () -> {
            NearlyBought x = city();
            EdgesOfCalls.outside(61, n -> x.purse(0, n), -1);
        });
        Edge.promise(29, "WHOSE.", () -> {
            NearlyBought x = city();
            Kit.due("who HOLDS it", x.whose(0, 0), 0);
            Kit.due("to whom it is SOLD", x.whose(1, 0), 1);
        });
        Edge.promise(29, "NONE: FREE,", () -> {
            NearlyBought x = city();
            Kit.due("now", x.whose(2, 0), -1);
            Kit.law(x, "y:0");
            Kit.due("later", x.whose(2, 60), -1);
            Kit.due("put BACK", x.whose(0, 2), -1);
        });
        Edge.promise(29, "no such THING,", () -> {
            NearlyBought x = city();
            EdgesOfCalls.outside(4, t -> x.whose(t, 0), -1);
            EdgesOfCalls.bareRefused(y -> y.whose(0, 0), -1, -1);
        });
        Edge.promise(29, "out of bounds.", () -> {
            NearlyBought x = city();
            EdgesOfCalls.outside(61, n -> x.whose(1, n), -1);
            Kit.due("60", x.whose(1, 60), 1);
        });
    }

    private static void best() {
        Edge.promise(30, "SEEK: WORTH (0), the order (1).", () -> {
            NearlyBought x = Kit.city("t;bk2");
            Kit.due("WORTH", x.seek(0, 1, 0), 5720);
            Kit.due("the order", x.seek(0, 1, 1), 10);
        });
        Edge.promise(30, "NONE: no such BUYER,", () -> {
            NearlyBought x = city();
            EdgesOfCalls.outside(4, b -> x.seek(b, 1, 0), -1);
            EdgesOfCalls.bareRefused(y -> y.seek(0, 1, 1), -1, -1);
        });
        Edge.promise(30, "he HOLDS one,", () -> {
            NearlyBought x = city();
            Kit.due("0 HOLDS one", x.seek(0, 1, 0) + x.seek(0, 4, 1), -2);
            Kit.due("1 has bought one", x.seek(1, 1, 1) >= 1, true);
            x.putBack(0);
            Kit.due("no more", x.seek(0, 1, 1) >= 1, true);
        });
        Edge.promise(30, "out of bounds,", () -> {
            NearlyBought x = city();
            EdgesOfCalls.outside(4, n -> x.seek(3, n == Integer.MAX_VALUE ? n : n + 1, 0), -1);
        });
        Edge.promise(30, "no such what.", () -> {
            NearlyBought x = city();
            EdgesOfCalls.outside(2, what -> x.seek(3, 1, what), -1);
        });
        Edge.promise(31, "RAISES: the RATE (0), TREASURY (1).", () -> {
            NearlyBought x = Kit.city("sr0y3i0;tp40w0;bm50n9");
            Kit.due("the RATE", x.raises(3, 0), 8);
            Kit.due("TREASURY", x.raises(3, 1), 40);
        });
        Edge.promise(31, "NONE: no CITY,", () -> {
            EdgesOfCalls.bareRefused(x -> x.raises(1, 0), -1, -1);
            EdgesOfCalls.bareRefused(x -> x.raises(1, 1), -1, -1);
        });
        Edge.promise(31, "out of bounds,", () -> {
            NearlyBought x = city();
            EdgesOfCalls.outside(60, n -> x.raises(n == Integer.MAX_VALUE ? n : n + 1, 0), -1);
        });
        Edge.promise(31, "no such what.", () -> {
            NearlyBought x = city();
            EdgesOfCalls.outside(2, what -> x.raises(1, what), -1);
        });
        Edge.promise(32, "SELLING: the WEIGHT (0), in how many (1).", () -> {
            NearlyBought x = Kit.city("tp27;b");
            Kit.due("the WEIGHT", x.selling(0, 0), 7);
            Kit.due("in how many", x.selling(0, 1), 2);
        });
        Edge.promise(32, "NONE: by none,", () -> {
            NearlyBought x = Kit.city("tp30;bm99");
            Kit.due("LIKING is 29 at most", x.selling(0, 0) + x.selling(0, 1), -2);
            NearlyBought y = Kit.city("tp29;bm99");
            Kit.due("by 9", y.selling(0, 0), 9);
        });
        Edge.promise(32, "no such THING,", () -> {
            NearlyBought x = city();
            EdgesOfCalls.outside(4, t -> x.selling(t, 0), -1);
            EdgesOfCalls.bareRefused(y -> y.selling(0, 1), -1, -1);
        });
        Edge.promise(32, "SOLD,", () -> {
            NearlyBought x = city();
            Kit.due("SOLD", x.selling(1, 0) + x.selling(1, 1), -2);
            x.undo();
            Kit.due("HELD", x.selling(1, 1), 1);
        });
        Edge.promise(32, "no such what.", () -> {
            NearlyBought x = Kit.city("t;b");
            EdgesOfCalls.outside(2, what -> x.selling(0, what), -1);
        });
    }

    private static void guesses() {
        Edge.promise(33, "SEEN: how many there are.", () -> {
            NearlyBought x = city();
            for (int i = 1; i <= 10; i++) {
                Kit.due("SEEN", x.seen(7, 7, i % 2 == 0), i);
            }
        });
        Edge.promise(33, "NONE: no CITY,", () -> EdgesOfCalls.bareRefused(x -> x.seen(1, 1, true), -1, -1));
        Edge.promise(33, "out of bounds,", () -> {
            NearlyBought x = city();
            EdgesOfCalls.outside(60, n -> x.seen(n == Integer.MAX_VALUE ? n : n + 1, 0, true), -1);
            EdgesOfCalls.outside(1000, v -> x.seen(1, v, false), -1);
            Kit.due("SEEN", x.count(11), 0);
            Kit.due("1, 0", x.seen(1, 0, true), 1);
            Kit.due("60, 999", x.seen(60, 999, false), 2);
        });
        Edge.promise(33, "there are ten.", () -> {
            java.util.function.Supplier<NearlyBought> ten = () -> {
                NearlyBought x = city();
                for (int i = 0; i < 10; i++) {
                    x.seen(1, 0, true);
                }
                return x;
            };
            Edge.refused(ten, x -> x.seen(1, 999, true), -1, -1);
        });
        Edge.promise(34, "DESIRES: how many (i NONE), the i-th.", () -> {
            NearlyBought x = city();
            Kit.due("how many", x.desires(0, -1), 10);
            for (int i = 0; i < 10; i++) {
                Kit.due("the i-th", x.desires(0, i), i);
            }
        });
        Edge.promise(34, "NONE: no such one,", () -> {
            NearlyBought x = city();
            int[] wrong = {10, 11, -2, Integer.MIN_VALUE, Integer.MAX_VALUE};
            for (int i : wrong) {
                Kit.due("i " + i, x.desires(0, i), -1);
            }
            x.seen(1, 999, true);
            Kit.due("none at all", x.desires(0, -1), 0);
            Kit.due("not the first", x.desires(0, 0), -1);
        });
        Edge.promise(34, "no such BUYER.", () -> {
            NearlyBought x = city();
            EdgesOfCalls.outside(4, b -> x.desires(b, -1), -1);
            EdgesOfCalls.bareRefused(y -> y.desires(0, -1), -1, -1);
        });
        Edge.promise(35, "ASK.", () -> Kit.due("ask", Kit.city("sr8y30;tp20w0;bd5n9").ask(0), 3));
        Edge.promise(35, "NONE: nothing fits,", () -> {
            NearlyBought x = city();
            Kit.due("all fit", x.ask(0) >= 1, true);
            x.seen(1, 999, true);
            Kit.due("nothing fits", x.ask(0), -1);
        });
        Edge.promise(35, "no such BUYER.", () -> {
            EdgesOfCalls.outside(4, city()::ask, -1);
            EdgesOfCalls.bareRefused(x -> x.ask(0), -1, -1);
        });
    }

    private static void games() {
        Edge.promise(36, "GAME: what the seller has (0), the BUYER (1).", () -> {
            NearlyBought x = Kit.city("tp20;b");
            Kit.due("the seller", x.game(0, 0, 1, 1, 0), 18);
            Kit.due("the BUYER", x.game(0, 0, 1, 1, 1), 4);
        });
        Edge.promise(36, "HIDDEN: no such BUYER, THING,", () -> {
            NearlyBought x = city();
            EdgesOfCalls.outside(4, b -> x.game(b, 0, 0, 0, 0), HIDDEN);
            EdgesOfCalls.outside(4, t -> x.game(0, t, 0, 0, 0), HIDDEN);
            EdgesOfCalls.bareRefused(y -> y.game(0, 0, 0, 0, 0), HIDDEN, -1);
        });
        Edge.promise(36, "SOLD,", () -> {
            NearlyBought x = city();
            Kit.due("SOLD to another", x.game(0, 1, 0, 0, 0), HIDDEN);
            Kit.due("SOLD to him", x.game(1, 1, 0, 0, 0), HIDDEN);
            Kit.due("HELD", x.game(1, 0, 0, 0, 0), 0);
        });
        Edge.promise(36, "out of bounds.", () -> {
            NearlyBought x = city();
            EdgesOfCalls.outside(4, off -> x.game(0, 0, off, 0, 0), HIDDEN);
            EdgesOfCalls.outside(3, y -> x.game(0, 0, 0, y, 0), HIDDEN);
            EdgesOfCalls.outside(2, what -> x.game(0, 0, 0, 0, what), HIDDEN);
        });
        Edge.promise(37, "RESTS: how many (i NONE), the i-th.", () -> {
            NearlyBought x = Kit.city("t;b");
            Kit.due("how many", x.rests(0, 0, -1), 1);
            Kit.due("the first", x.rests(0, 0, 0), 1);
        });
        Edge.promise(37, "NONE: no such one,", () -> {
            NearlyBought x = Kit.city("t;b");
            int[] wrong = {1, 2, -2, Integer.MIN_VALUE, Integer.MAX_VALUE};
            for (int i : wrong) {
                Kit.due("i " + i, x.rests(0, 0, i), -1);
            }
        });
        Edge.promise(37, "no such BUYER, THING,", () -> {
            NearlyBought x = city();
            EdgesOfCalls.outside(4, b -> x.rests(b, 0, -1), -1);
            EdgesOfCalls.outside(4, t -> x.rests(0, t, -1), -1);
            EdgesOfCalls.bareRefused(y -> y.rests(0, 0, -1), -1, -1);
        });
        Edge.promise(37, "SOLD.", () -> {
            NearlyBought x = city();
            Kit.due("SOLD", x.rests(0, 1, -1) + x.rests(1, 1, 0), -2);
            Kit.due("HELD", x.rests(1, 0, -1) > 0, true);
        });
        Edge.promise(38, "ODDS.", () -> {
            NearlyBought x = Kit.city("sr8y30;tp99w0;bn9");
            x.pick(0, 0);
            Kit.due("odds", x.odds(2, 99, 25), 750000000);
        });
        Edge.promise(38, "NONE: no CITY,", () -> EdgesOfCalls.bareRefused(x -> x.odds(0, 0, 0), -1, -1));
        Edge.promise(38, "out of bounds.", () -> {
            NearlyBought x = city();
            EdgesOfCalls.outside(7, n -> x.odds(n, 0, 0), -1);
            EdgesOfCalls.outside(1000, v -> x.odds(0, v, 0), -1);
            EdgesOfCalls.outside(101, chance -> x.odds(0, 0, chance), -1);
        });
    }

    private static void wholes() {
        Edge.promise(39, "SHARES.", () -> {
            NearlyBought x = Kit.city("sr8;tp1;tp3;b;b");
            Edge.touch(x, 0, 0);
            Edge.touch(x, 1, 1);
            Kit.due("a quarter", x.shares(0, 10), 2);
            Kit.due("three", x.shares(1, 10), 7);
        });
        Edge.promise(39, "NONE: no such BUYER,", () -> {
            NearlyBought x = city();
            EdgesOfCalls.outside(4, b -> x.shares(b, 1), -1);
            EdgesOfCalls.bareRefused(y -> y.shares(0, 1), -1, -1);
        });
        Edge.promise(39, "out of bounds.", () -> {
            NearlyBought x = city();
            EdgesOfCalls.outside(1000, c -> x.shares(0, c), -1);
            Kit.due("0", x.shares(0, 0), 0);
            Kit.due("999", x.shares(0, 999), 0);
        });
        Edge.promise(40, "RICHEST (0), MOST DUE (1), BOLDEST (2), KEENEST (3), DEAREST (4), HEAVIEST (5), HOLDERS (6, bits),"
            + " FREE (7, bits), SOLD (8, bits), AFRAID (9, bits), DUE (10), AWAY (11, bits), WANTED (12).", () -> {
                NearlyBought x = Kit.city("sr8;tp5w1;tp50;tp9w7;tp6w4;tp8w7;b;bm80d6;bn9m70;bd9k1;bd0n0;bd0");
                Edge.touch(x, 4, 2);
                Edge.touch(x, 0, 0);
                x.pick(0, 3);
                x.pick(3, 0);
                x.buy(3);
                x.clerk(2);
                x.clerk(3);
                int[] want = {1, 4, 2, 3, 1, 2, 1, 22, 1, 16, 14, 12, 2};
                for (int what = 0; what < 13; what++) {
                    Kit.due("all(" + what + ")", x.all(what), want[what]);
                }
            });
        Edge.promise(40, "HIDDEN: no CITY,", () -> {
            for (int what = 0; what < 13; what++) {
                Kit.due("all(" + what + ")", EdgesOfCalls.bare().all(what), HIDDEN);
            }
        });
        Edge.promise(40, "no such what.", () -> EdgesOfCalls.outside(13, city()::all, HIDDEN));
        Edge.promise(41, "An IMAGE (instead of the one ahead): the HOUR.", () -> {
            NearlyBought x = city();
            Kit.due("0", x.image(), 0);
            Edge.hours(x, 3);
            Kit.due("3", x.image(), 3);
            x.hour();
            Kit.due("instead of the one ahead", x.back(), 3);
            Kit.due("again", x.back(), 3);
        });
        Edge.promise(41, "NONE: no CITY.", () -> EdgesOfCalls.bareRefused(NearlyBought::image, -1, -1));
        Edge.promise(42, "BACK: the HOUR.", () -> {
            NearlyBought x = city();
            Edge.hours(x, 2);
            x.image();
            Edge.hours(x, 2);
            Kit.due("2", x.back(), 2);
            Kit.due("the HOUR", x.count(6), 2);
        });
        Edge.promise(42, "NONE: no IMAGE of this CITY.", () -> {
            EdgesOfCalls.bareRefused(NearlyBought::back, -1, -1);
            Edge.refused(EdgesOfAsking::city, NearlyBought::back, -1, -1);
            java.util.function.Supplier<NearlyBought> another = () -> {
                NearlyBought x = city();
                x.image();
                Kit.text(x, 0, "t;b");
                x.hour();
                return x;
            };
            Edge.refused(another, NearlyBought::back, -1, -1);
            NearlyBought x = city();
            x.image();
            Kit.text(x, 0, "t");
            Kit.due("a text with a FAULT is no other CITY", x.back(), 0);
        });
        Edge.promise(43, "0 THINGS, 1 BUYERS (0: no CITY), 2 LAWS, 3 DAYS, 4 bytes of the TAPE, 5 the LAW that holds (NONE),"
            + " 6 the HOUR, 7 RATE, 8 TREASURY, 9 BILLS, 10 TEMPTED, 11 SEEN, 12 how long the LOG is,"
            + " 13 ACTS that can be UNDONE.", () -> {
                NearlyBought x = EdgesOfCalls.bare();
                Kit.due("no THINGS", x.count(0), 0);
                Kit.due("no BUYERS", x.count(1), 0);
                Kit.text(x, 0, "sr8y2i0;tp9;tp8;b;b;b");
                Kit.text(x, 1, "y:0");
                Kit.text(x, 1, "y:1");
                x.law(1);
                Edge.touch(x, 0, 0);
                Edge.hours(x, 3);
                Edge.touch(x, 1, 1);
                Edge.touch(x, 1, 1);
                x.rate(6);
                x.tempted(4);
                for (int i = 0; i < 5; i++) {
                    x.seen(1, 1, true);
                }
                Kit.feed(x, "1234567");
                int[] want = {2, 3, 3, 1, 7, 1, 3, 6, 9, 2, 4, 5, 3, 10};
                for (int what = 0; what < 14; what++) {
                    Kit.due("count(" + what + ")", x.count(what), want[what]);
                }
                x.law(-1);
                Kit.due("none holds", x.count(5), -1);
            });
        Edge.promise(43, "HIDDEN for others.", () -> {
            EdgesOfCalls.outside(14, city()::count, HIDDEN);
            EdgesOfCalls.outside(14, new NearlyBought()::count, HIDDEN);
        });
    }

    static void run() {
        ahead();
        best();
        guesses();
        games();
        wholes();
    }
}
