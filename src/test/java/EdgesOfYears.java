import java.math.BigInteger;
import java.util.function.Supplier;
import java.util.function.ToIntFunction;

/** Edges of the Terms' fourth part: YEARS, IMAGES, what is refused. */
final class EdgesOfYears {
    private static final BigInteger ROUND = BigInteger.ONE.shiftLeft(64);
    private static final BigInteger TIMES = new BigInteger("6364136223846793005");
    private static final BigInteger MORE = new BigInteger("1442695040888963407");

    /** Draws as the document tells them, by numbers that do not go round by themselves. */
    private static final class Draws {
        private BigInteger x;

        Draws(long seed) {
            x = BigInteger.valueOf(seed).mod(ROUND);
        }

        int of(int j) {
            x = x.multiply(TIMES).add(MORE).mod(ROUND);
            return x.shiftRight(33).mod(BigInteger.valueOf(j)).intValue();
        }
    }

    private EdgesOfYears() {
    }

    /** The first seed (0, 1 ..) whose first draw of 10 is d. */
    private static long seedWithFirst(int d) {
        long seed = 0;
        while (new Draws(seed).of(10) != d) {
            seed++;
        }
        return seed;
    }

    /** The first seed by which, with TEMPTED 0, the first HOUR's draw for a PURSE is d. */
    private static long seedWithSecond(int d) {
        for (long seed = 0;; seed++) {
            Draws draws = new Draws(seed);
            draws.of(10);
            if (draws.of(10) == d) {
                return seed;
            }
        }
    }

    /** n HOURS with what is ahead of them, by hand; the PURSES must be far from 999. */
    private static void byHand(NearlyBought x, int n, long seed, int tempted) {
        Draws draws = new Draws(seed);
        for (int i = 0; i < n; i++) {
            if (draws.of(10) < tempted) {
                x.clerk(draws.of(4));
            }
            if (draws.of(10) < 2) {
                int buyer = draws.of(x.count(1));
                x.gift(buyer, draws.of(10) + 1);
            }
            x.hour();
        }
    }

    private static void years() {
        Edge.terms("YEARS by a seed: n (1 .. 30) HOURS, ahead of each:", () -> {
            int[] ns = {Integer.MIN_VALUE, -1, 0, 1, 2, 29, 30, 31, Integer.MAX_VALUE};
            for (int n : ns) {
                NearlyBought x = Kit.city("t;b");
                boolean within = n >= 1 && n <= 30;
                Kit.due("n " + n, x.years(n, 7), within ? n : -1);
                Kit.due("the HOUR", x.count(6), within ? n : 0);
                Kit.due("LOG", x.count(12), within ? n : 0);
            }
        });
        Edge.terms("a draw of 10 below TEMPTED (0 .. 9; 2 at first):", () -> {
            for (int d = 0; d <= 9; d++) {
                long seed = seedWithFirst(d);
                NearlyBought first = Kit.city("t;b");
                first.years(1, seed);
                Kit.due("2 at first, a draw of " + d, first.all(11) != 0, d < 2);
                for (int tempted = 0; tempted <= 9; tempted++) {
                    NearlyBought x = Kit.city("t;b");
                    x.tempted(tempted);
                    x.years(1, seed);
                    Kit.due("TEMPTED " + tempted + ", a draw of " + d, x.all(11) != 0, d < tempted);
                }
            }
            Kit.due("TEMPTED -1", new NearlyBought().tempted(-1), false);
            Kit.due("TEMPTED 10", new NearlyBought().tempted(10), false);
        });
        Edge.terms("a draw of 4: the CLERK of that SHOP looks AWAY, or not any more;", () -> {
            int shops = 0;
            for (long seed = 0; seed < 40; seed++) {
                Draws draws = new Draws(seed);
                if (draws.of(10) >= 9) {
                    continue;
                }
                int shop = draws.of(4);
                shops |= 1 << shop;
                NearlyBought x = Kit.city("t;b");
                x.tempted(9);
                x.years(1, seed);
                Kit.due("AWAY", x.all(11), 1 << shop);
                x.years(1, seed);
                Kit.due("not any more", x.all(11), 0);
            }
            Kit.due("all SHOPS were drawn", shops, 15);
        });
        Edge.terms("then a draw of 10 below 2: a draw of how many BUYERS, a draw of 10 and 1:", () -> {
            for (int d = 0; d <= 9; d++) {
                long seed = seedWithSecond(d);
                NearlyBought x = Kit.city("tw0;bd0m10;bd0m20;bd0m30");
                x.tempted(0);
                x.years(1, seed);
                Draws draws = new Draws(seed);
                draws.of(10);
                draws.of(10);
                int buyer = draws.of(3);
                int more = draws.of(10) + 1;
                for (int b = 0; b < 3; b++) {
                    Kit.due("a draw of " + d, x.buyer(b, 0), 10 * b + 10 + (d < 2 && b == buyer ? more : 0));
                }
            }
            int drawn = 0;
            int sums = 0;
            for (long seed = 0; seed < 400; seed++) {
                NearlyBought x = Kit.city("tw0;bd0m0;bd0m0;bd0m0;bd0m0;bd0m0;bd0m0");
                NearlyBought hand = Kit.city("tw0;bd0m0;bd0m0;bd0m0;bd0m0;bd0m0;bd0m0");
                x.years(1, seed);
                byHand(hand, 1, seed, 2);
                for (int b = 0; b < 6; b++) {
                    Kit.due("PURSE", x.buyer(b, 0), hand.buyer(b, 0));
                    drawn |= x.buyer(b, 0) > 0 ? 1 << b : 0;
                    sums |= 1 << x.buyer(b, 0);
                }
            }
            Kit.due("all BUYERS were drawn", drawn, 63);
            Kit.due("1 .. 10 and none were drawn", sums, 2047);
        });
        Edge.terms("his PURSE gets so much more (999 at most).", () -> {
            int above = 0;
            for (long seed = 0; seed < 200; seed++) {
                Draws draws = new Draws(seed);
                draws.of(10);
                if (draws.of(10) >= 2) {
                    continue;
                }
                draws.of(1);
                int more = draws.of(10) + 1;
                NearlyBought x = Kit.city("tw0;bd0m0");
                x.tempted(0);
                Edge.give(x, 0, 994);
                x.years(1, seed);
                Kit.due("994 and " + more, x.buyer(0, 0), Math.min(999, 994 + more));
                above |= more < 5 ? 1 : more == 5 ? 2 : more == 6 ? 4 : 8;
            }
            Kit.due("below 999, 999, 1,000 and above were drawn", above, 15);
        });
        Edge.terms("Each HOUR with what is ahead of it is one ACT.", () -> {
            NearlyBought x = Kit.city("sr8y5;tp40w5;tp25s1;bm20;bm20");
            x.tempted(9);
            x.years(12, 3);
            Kit.due("ACTS", x.count(13), 12);
            for (int left = 11; left >= 0; left--) {
                Kit.due("UNDONE", x.undo(), left);
                NearlyBought hand = Kit.city("sr8y5;tp40w5;tp25s1;bm20;bm20");
                byHand(hand, left, 3, 9);
                Kit.due("HOUR", x.count(6), left);
                Kit.due("AWAY", x.all(11), hand.all(11));
                Kit.due("PURSES", x.buyer(0, 0) * 1000 + x.buyer(1, 0), hand.buyer(0, 0) * 1000 + hand.buyer(1, 0));
                Kit.due("LOG", x.count(12), left);
            }
            x.years(30, 3);
            x.years(11, 3);
            Kit.due("the latest 40", x.count(13), 40);
        });
        Edge.terms("No STATUS.", () -> {
            NearlyBought x = new NearlyBought();
            x.years(1, 1);
            Kit.text(x, 0, "t;b");
            x.years(0, 1);
            x.years(31, 1);
            Edge.give(x, 0, 969);
            x.years(30, 5);
            NearlyBought late = Edge.late("t;b", "y:0", 0);
            late.years(1, 1);
            for (int what = 0; what < 6; what++) {
                Kit.due("STATUS " + what, x.status(what) + late.status(what), 0);
            }
        });
        Edge.terms("x, at first the seed, becomes x times 6364136223846793005 and 1442695040888963407 (64 bits, going round);"
            + " a draw of j: (x shifted right by 33, without sign) modulo j.", () -> {
                long[] seeds = {0, 1, -1, 2, Long.MAX_VALUE, Long.MIN_VALUE, 1L << 32, -(1L << 33), 4611686018427387904L,
                    -7046029254386353131L, 1234567890123456789L};
                for (long seed : seeds) {
                    String city = "sr6y9;tp40w5;tp25s1w9;tp60s3;bm5;bm6d9n9;bk1m7;b;b";
                    NearlyBought x = Kit.city(city);
                    NearlyBought hand = Kit.city(city);
                    x.tempted(5);
                    x.years(30, seed);
                    byHand(hand, 30, seed, 5);
                    for (int what = 6; what < 13; what++) {
                        Kit.due("all(" + what + ") by " + seed, x.all(what), hand.all(what));
                    }
                    for (int b = 0; b < 5; b++) {
                        Kit.due("PURSE by " + seed, x.buyer(b, 0), hand.buyer(b, 0));
                    }
                    Kit.due("TREASURY by " + seed, x.count(8), hand.count(8));
                }
                // Each call begins with its seed anew.
                NearlyBought once = Kit.city("t;bm0");
                NearlyBought twice = Kit.city("t;bm0");
                once.years(5, 9);
                once.years(5, 9);
                byHand(twice, 5, 9, 2);
                byHand(twice, 5, 9, 2);
                Kit.due("PURSE", once.buyer(0, 0), twice.buyer(0, 0));
                Kit.due("AWAY", once.all(11), twice.all(11));
            });
    }

    private static void images() {
        Edge.terms("An IMAGE keeps THINGS, PURSES, BILLS, RATE, CLERKS, TREASURY, the HOUR, the LOG; BACK: they are so again", () -> {
            NearlyBought x = lived();
            x.image();
            NearlyBought same = lived();
            same.image();
            same.back();
            x.putBack(0);
            x.pick(0, 1);
            x.buy(0);
            x.rate(8);
            x.clerk(3);
            x.gift(1, 50);
            x.years(30, 1);
            x.years(30, 2);
            x.back();
            Kit.due("they are so again", Looks.of(x).equals(Looks.of(same)), true);
            // Those that it does not keep are as they are.
            NearlyBought y = lived();
            y.image();
            y.tempted(8);
            y.law(-1);
            y.seen(2, 2, true);
            Kit.day(y, "h");
            y.pick(9, 9);
            y.back();
            Kit.due("TEMPTED", y.count(10), 8);
            Kit.due("the LAW", y.count(5), -1);
            Kit.due("SEEN", y.count(11), 2);
            Kit.due("DAYS", y.count(3), 2);
            Kit.due("STATUS", y.status(0), 2);
        });
        Edge.terms("(no ACT can be UNDONE then).", () -> {
            NearlyBought x = lived();
            x.image();
            Kit.due("ACTS ahead", x.count(13) > 0, true);
            x.back();
            Kit.due("none", x.count(13), 0);
            Kit.due("none", x.undo(), -1);
            x.gift(0, 1);
            Kit.due("those behind it can be", x.count(13), 1);
            Kit.due("UNDONE", x.undo(), 0);
        });
    }

    /** A CITY with some of all in it; 0 HOLDS 0, 1 HOLDS 2, 2 HOLDS 1. */
    static NearlyBought lived() {
        NearlyBought x = Kit.city("sr5y7;tp30w5;tp12s1;tp50s2w9;tp40;bm40;bm60k1;bk2n9;b");
        Kit.text(x, 1, "y:d");
        Kit.law(x, "y:p<40?p/2+w;y:0");
        Kit.day(x, "p00;b0;h");
        x.pick(9, 9);
        x.pick(0, 1);
        x.putBack(0);
        x.pick(1, 2);
        x.clerk(1);
        x.hour();
        x.image();
        x.gift(2, 5);
        x.hour();
        x.seen(5, 3, true);
        Kit.feed(x, "t;q");
        return x;
    }

    private static void refused(ToIntFunction<NearlyBought> call, int answer, int status) {
        Supplier<NearlyBought> scene = EdgesOfYears::lived;
        Edge.refused(scene, call, answer, status);
    }

    private static void refusals() {
        Edge.terms("What is refused answers as told and changes nothing but STATUS.", () -> {
            int hidden = NearlyBought.HIDDEN;
            NearlyBought x = lived();
            Kit.due("0 HOLDS", x.buyer(0, 4), 0);
            Kit.due("1 HOLDS", x.buyer(1, 4), 2);
            Kit.due("2 HOLDS", x.buyer(2, 4), 1);
            Kit.due("3 HOLDS none", x.buyer(3, 4), -1);
            int full = 0x20202020;
            refused(y -> {
                for (int i = 0; i < 11; i++) {
                    y.feed(full, full, full, full, full);
                }
                int answer = y.feed(full, full, full, full, full);
                y.end(3);
                return answer;
            }, -1, -1);
            refused(y -> y.end(4) ? 1 : 0, 0, -1);
            refused(y -> y.fault(3), -2, -1);
            refused(y -> y.text(0), -1, -1);
            refused(y -> y.text(1), -1, -1);
            refused(y -> y.text(2), -1, -1);
            refused(y -> y.text(3), -1, -1);
            refused(y -> y.thing(4, 0), hidden, -1);
            refused(y -> Kit.throwsNoSuch(y, 4, 0) ? 1 : 0, 1, -1);
            refused(y -> y.liking(4, 0), -1, -1);
            refused(y -> y.bill(0, 1, 0), -1, -1);
            refused(y -> y.law(2) ? 1 : 0, 0, -1);
            refused(y -> y.tempted(2) ? 1 : 0, 0, -1);
            refused(y -> y.pick(3, 4), -1, 0);
            refused(y -> y.pick(3, 0), -1, 2);
            refused(y -> y.pick(0, 3), -1, 3);
            refused(y -> y.putBack(4), -1, 0);
            refused(y -> y.putBack(3), -1, 2);
            refused(y -> y.hand(0, 4), -1, 0);
            refused(y -> y.hand(0, 0), -1, 1);
            refused(y -> y.hand(3, 0), -1, 2);
            refused(y -> y.hand(0, 1), -1, 3);
            refused(y -> y.buy(4), -1, 0);
            refused(y -> y.buy(3), -1, 2);
            refused(y -> y.clerk(4), -1, 1);
            refused(y -> y.rate(9), -1, 1);
            refused(y -> y.rate(5), -1, 2);
            refused(y -> y.gift(4, 1), -1, 0);
            refused(y -> y.gift(0, 51), -1, 1);
            refused(y -> y.years(31, 1), -1, -1);
            refused(y -> y.status(6), -1, -1);
            refused(y -> y.log(2, 0), -1, -1);
            refused(y -> y.step(0, 3, 0), hidden, -1);
            refused(y -> y.run(1, 0), hidden, -1);
            refused(y -> y.perform(1), -1, -1);
            refused(y -> y.perform(0), 0, -1);
            refused(y -> y.treasury(61), -1, -1);
            refused(y -> y.purse(0, 61), -1, -1);
            refused(y -> y.whose(0, 61), -1, -1);
            refused(y -> y.seek(0, 1, 0), -1, -1);
            refused(y -> y.raises(61, 0), -1, -1);
            refused(y -> y.selling(4, 0), -1, -1);
            refused(y -> y.seen(61, 0, true), -1, -1);
            refused(y -> y.desires(4, -1), -1, -1);
            refused(y -> y.ask(4), -1, -1);
            refused(y -> y.game(0, 0, 4, 0, 0), hidden, -1);
            refused(y -> y.rests(4, 0, -1), -1, -1);
            refused(y -> y.odds(7, 0, 0), -1, -1);
            refused(y -> y.shares(0, 1000), -1, -1);
            refused(y -> y.all(13), hidden, -1);
            refused(y -> y.count(14), hidden, -1);
        });
    }

    private static void constants() {
        Edge.terms("The constants: `NONE = -1`: None; refused.", () -> Kit.due("NONE", NearlyBought.NONE, -1));
        Edge.terms("`HIDDEN = -1000000`: Not told.", () -> Kit.due("HIDDEN", NearlyBought.HIDDEN, -1000000));
        Edge.ahead("An object is used for at most 512 calls after it has been made;", () -> {
            NearlyBought x = new NearlyBought();
            x.feed(Kit.word("t;b", 0), 0, 0, 0, 0);
            x.text(0);
            for (int call = 3; call < 512; call++) {
                x.years(19, call);
            }
            Kit.due("the 512th", x.count(6), 509 * 19);
        });
    }

    static void run() {
        years();
        images();
        refusals();
        constants();
    }
}
