/** Promises 27 to 29, 31, 32 and 38: treasury, purse, whose, raises, selling, odds. */
public final class AheadTest {
    private static void ahead() {
        // He picks it up, HOLDS it, puts it BACK at MICHAELMAS and pays what he has.
        NearlyBought x = Kit.city("sy3r8i10;tp99w0;bm50n9");
        int[] treasury = {0, 0, 0, 50, 50, 50, 60};
        int[] purse = {50, 50, 50, 10, 10, 10, 10};
        int[] whose = {-1, 0, 0, -1, 0, 0, -1};
        for (int n = 0; n < 7; n++) {
            Kit.due("treasury(" + n + ")", x.treasury(n), treasury[n]);
            Kit.due("purse(0, " + n + ")", x.purse(0, n), purse[n]);
            Kit.due("whose(0, " + n + ")", x.whose(0, n), whose[n]);
        }
        Kit.due("treasury(60)", x.treasury(60), 50 + 19 * 10);
        Kit.due("treasury(61)", x.treasury(61), -1);
        Kit.due("treasury(-1)", x.treasury(-1), -1);
        Kit.due("purse(0, 61)", x.purse(0, 61), -1);
        Kit.due("purse(0, -1)", x.purse(0, -1), -1);
        Kit.due("purse(1, 0)", x.purse(1, 0), -1);
        Kit.due("purse(-1, 0)", x.purse(-1, 0), -1);
        Kit.due("whose(0, 61)", x.whose(0, 61), -1);
        Kit.due("whose(1, 1)", x.whose(1, 1), -1);
        Kit.due("whose(-1, 1)", x.whose(-1, 1), -1);
        Kit.due("it is apart", x.count(6) + x.count(8) + x.count(12) + x.count(13) + x.all(6), 0);

        Kit.due("raises(3, 0)", x.raises(3, 0), 5);
        Kit.due("raises(3, 1)", x.raises(3, 1), 50);
        Kit.due("raises(2, 0): the least", x.raises(2, 0), 0);
        Kit.due("raises(2, 1)", x.raises(2, 1), 0);
        Kit.due("raises(0, 0)", x.raises(0, 0), -1);
        Kit.due("raises(61, 0)", x.raises(61, 0), -1);
        Kit.due("raises(60, 1)", x.raises(60, 1) >= x.treasury(60), true);
        Kit.due("raises(3, 2)", x.raises(3, 2), -1);
        Kit.due("raises(3, -1)", x.raises(3, -1), -1);
        Kit.due("RATE stays", x.count(7), 8);
        x.hour();
        x.hour();
        x.hour();
        Kit.due("treasury(0)", x.treasury(0), 50);
        NearlyBought y = Kit.city("t;b;b");
        y.pick(1, 0);
        Kit.due("who HOLDS it now", y.whose(0, 0), 1);
        Kit.due("to whom it is SOLD", y.whose(0, 1), 1);
        Kit.due("and stays", y.whose(0, 60), 1);
    }

    private static void selling() {
        NearlyBought x = Kit.city("tp25w0;bd5m30");
        Kit.due("selling WEIGHT", x.selling(0, 0), 5);
        Kit.due("selling HOURS", x.selling(0, 1), 2);
        x.pick(0, 0);
        Kit.due("HELD: WEIGHT", x.selling(0, 0), 5);
        Kit.due("HELD: HOURS", x.selling(0, 1), 1);
        Kit.due("WEIGHT stays", x.thing(0, 1), 0);
        Kit.due("selling(0, 2)", x.selling(0, 2), -1);
        Kit.due("selling(0, -1)", x.selling(0, -1), -1);
        Kit.due("selling(1, 0)", x.selling(1, 0), -1);
        Kit.due("selling(-1, 0)", x.selling(-1, 0), -1);
        x.buy(0);
        Kit.due("SOLD", x.selling(0, 0), -1);
        x = Kit.city("si30;tp25w0;bd5m24k2");
        Kit.due("by INCOME", x.selling(0, 0), 5);
        Kit.due("by INCOME", x.selling(0, 1), 13);
        x = Kit.city("tp99;b");
        Kit.due("by none", x.selling(0, 0), -1);
        Kit.due("by none", x.selling(0, 1), -1);
        // It is liked in the HOUR 15 alone, by any WEIGHT.
        x = Kit.city("si0;tp20;bk2");
        Kit.law(x, "y:h=15?20;y:1");
        x.tempted(0);
        Kit.due("in 16", x.selling(0, 1), 16);
        Kit.due("by any: the least", x.selling(0, 0), 0);
        x = Kit.city("sy20i30;tp50w3;bk2m0");
        Kit.law(x, "y:50");
        Kit.due("PURSE 60 at 40: too late", x.selling(0, 1), -1);
        x.hour();
        Kit.due("one HOUR later", x.selling(0, 1), 40);
    }

    private static void odds() {
        NearlyBought x = Kit.city("sr8y30;tp99w0;bn9");
        Kit.due("odds(3, 99, 30)", x.odds(3, 99, 30), 700000000);
        Kit.due("odds(5, 99, 30)", x.odds(5, 99, 30), 910000000);
        Kit.due("odds(3, 99, 0)", x.odds(3, 99, 0), 1000000000);
        Kit.due("odds(3, 99, 100)", x.odds(3, 99, 100), 0);
        Kit.due("odds(3, 100, 30)", x.odds(3, 100, 30), 0);
        Kit.due("odds(3, 0, 37)", x.odds(3, 0, 37), 1000000000);
        Kit.due("odds(2, 1, 30)", x.odds(2, 1, 30), 0);
        Kit.due("odds(0, 0, 30)", x.odds(0, 0, 30), 1000000000);
        Kit.due("odds(0, 1, 30)", x.odds(0, 1, 30), 0);
        x = Kit.city("sr8y30;tp99w0;bn9");
        x.pick(0, 0);
        x.clerk(3);
        // Parts are cut once for each HOUR.
        long want = 0;
        for (int path = 0; path < 64; path++) {
            long parts = 1000000000L;
            for (int i = 0; i < 6; i++) {
                long part = parts * 33 / 100;
                parts = (path >> i & 1) == 1 ? part : parts - part;
            }
            boolean atSecond = (path >> 1 & 1) == 0;
            boolean atFourth = (path >> 3 & 1) == 0;
            boolean atSixth = (path >> 5 & 1) == 0;
            want += atSecond || atFourth || atSixth ? parts : 0;
        }
        Kit.due("odds(6, 99, 33)", x.odds(6, 99, 33), want);
        x.clerk(0);
        Kit.due("as they do now: AWAY", x.odds(6, 1, 33), 0);
        Kit.due("AWAY stays", x.all(11), 9);
        Kit.due("odds(7, 0, 0)", x.odds(7, 0, 0), -1);
        Kit.due("odds(-1, 0, 0)", x.odds(-1, 0, 0), -1);
        Kit.due("odds(0, -1, 0)", x.odds(0, -1, 0), -1);
        Kit.due("odds(0, 1000, 0)", x.odds(0, 1000, 0), -1);
        Kit.due("odds(0, 999, 0)", x.odds(0, 999, 0), 0);
        Kit.due("odds(0, 0, 101)", x.odds(0, 0, 101), -1);
        Kit.due("odds(0, 0, -1)", x.odds(0, 0, -1), -1);
    }

    public static void main(String[] args) {
        ahead();
        selling();
        odds();
        Kit.end();
    }
}
