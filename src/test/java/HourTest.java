/** Promises 16 and 23: hour, log. */
public final class HourTest {
    private static void choosing() {
        // LIKING is 4 d + w: the first takes the heaviest, the second the next, both of WEIGHT 5 the lowest.
        NearlyBought x = Kit.city("tw5;tw9;tw5;b;b;bd0");
        Kit.due("who HOLDS one", x.hour(), 7);
        Kit.due("0 HOLDS", x.buyer(0, 4), 1);
        Kit.due("1 HOLDS", x.buyer(1, 4), 0);
        Kit.due("2 HOLDS", x.buyer(2, 4), 2);
        Kit.due("HELD 0 as it is picked up", x.thing(1, 5), 0);
        x = Kit.city("tw0;bd0");
        Kit.due("LIKING 0: nothing", x.hour(), 0);
    }

    private static void holding() {
        // WEIGHT 5: a third is 1; HELD 0, 1, 2 and then BACK, and not picked up as there is a BILL.
        NearlyBought x = Kit.city("tp99w5;bn9");
        x.hour();
        for (int held = 1; held <= 2; held++) {
            Kit.due("he HOLDS it", x.hour(), 1);
            Kit.due("HELD", x.thing(0, 5), held);
        }
        Kit.due("put BACK", x.hour(), 0);
        Kit.due("a BILL", x.bill(0, 0, 2), 24);
        Kit.due("of HOUR 3", x.bill(0, 0, 1), 3);
        Kit.due("he has a BILL for it", x.hour(), 0);
        x.years(6, 0);
        Kit.due("HOUR", x.count(6), 11);
        Kit.due("BILLS", x.count(9), 1);
        int purse = x.buyer(0, 0);
        x.tempted(0);
        Kit.due("MICHAELMAS", x.hour(), 0);
        Kit.due("TREASURY", x.count(8), 24);
        Kit.due("PURSE", x.buyer(0, 0), purse - 24 + 5);
        Kit.due("no BILLS", x.count(9), 0);
        Kit.due("he picks it up again", x.hour(), 1);
    }

    private static void noBill() {
        // A thief puts BACK and takes it in the same HOUR.
        NearlyBought x = Kit.city("tp99w2;bk2");
        x.hour();
        x.hour();
        Kit.due("HELD", x.thing(0, 5), 1);
        Kit.due("put BACK, picked up", x.hour(), 1);
        Kit.due("HELD anew", x.thing(0, 5), 0);
    }

    private static void buyingThen() {
        NearlyBought x = Kit.city("tp22;tp22;tp23;b;bm21;b");
        x.pick(0, 0);
        x.pick(1, 1);
        x.pick(2, 2);
        Kit.due("he BUYS by LIKING and PURSE, else HOLDS on", x.hour(), 6);
        Kit.due("SOLD", x.all(8), 1);
        Kit.due("PURSE", x.buyer(0, 0), 8);
        Kit.due("HELD", x.thing(1, 5), 1);
    }

    private static void fear() {
        NearlyBought x = Kit.city("sr8;tp12;tp13;tp50;bn2;bn2");
        Kit.law(x, "y:1");
        x.pick(0, 0);
        x.putBack(0);
        x.pick(1, 1);
        x.putBack(1);
        Kit.due("AFRAID", x.all(9), 2);
        Kit.due("who is not afraid takes one", x.hour(), 1);
        Kit.due("without a BILL", x.buyer(0, 4), 1);
    }

    private static void michaelmas() {
        // He pays as much as he has; INCOME comes behind it.
        NearlyBought x = Kit.city("sr8y2i30;tp40;bm7n0;bm50n0;bm99n0");
        for (int b = 0; b < 2; b++) {
            x.pick(b, 0);
            x.putBack(b);
        }
        Kit.law(x, "y:0");
        x.hour();
        Kit.due("not yet", x.count(8), 0);
        Kit.due("BILLS", x.log(0, 1), 2);
        x.hour();
        Kit.due("TREASURY", x.count(8), 47);
        Kit.due("PURSE", x.buyer(0, 0), 30);
        Kit.due("PURSE", x.buyer(1, 0), 40);
        Kit.due("PURSE", x.buyer(2, 0), 129);
        Kit.due("LOG: BILLS", x.log(0, 1), 0);
        Kit.due("LOG: TREASURY", x.log(0, 2), 47);
        Kit.due("LOG ahead of it", x.log(1, 2), 0);
        for (int i = 0; i < 20; i++) {
            x.years(3, 0);
        }
        Kit.due("HOUR", x.count(6), 62);
        x.tempted(0);
        for (int i = 0; i < 18; i++) {
            x.gift(2, 1);
        }
        Kit.due("999 at most", x.buyer(2, 0), 999);
        x.hour();
        x.hour();
        Kit.due("999 at most", x.buyer(2, 0), 999);
    }

    private static void logs() {
        NearlyBought x = Kit.city("tp99w9;b;b");
        Kit.due("no LOG", x.log(0, 0), -1);
        Kit.due("log: none", x.count(12), 0);
        x.pick(1, 0);
        x.hour();
        Kit.due("LOG HOLDERS", x.log(0, 0), 2);
        Kit.due("log(1, 0)", x.log(1, 0), -1);
        Kit.due("log(-1, 0)", x.log(-1, 0), -1);
        Kit.due("log(0, 3)", x.log(0, 3), -1);
        Kit.due("log(0, -1)", x.log(0, -1), -1);
        for (int i = 0; i < 70; i++) {
            x.hour();
        }
        Kit.due("the latest 60", x.count(12), 60);
        Kit.due("the 60th", x.log(59, 0) >= 0, true);
        Kit.due("no 61st", x.log(60, 0), -1);
    }

    private static void last() {
        NearlyBought x = Kit.city("sy30r8;tp99w9;bm0");
        Kit.day(x, "h");
        Kit.law(x, "y:h");
        Kit.due("no CITY", new NearlyBought().hour(), -1);
        for (int i = 1; i <= 333; i++) {
            x.years(30, i);
        }
        Kit.due("HOUR", x.count(6), 9990);
        Kit.due("beyond", x.years(10, 1), -1);
        Kit.due("up to the last", x.years(9, 1), 9999);
        Kit.due("none goes by", x.hour(), -1);
        Kit.due("STATUS 5", x.status(5), 1);
        Kit.due("STATUS 1: not by years", x.status(1), 0);
        Kit.due("years", x.years(1, 1), -1);
        Kit.due("not in RUN", x.run(0, 0), 0);
        Kit.due("nor done", x.perform(0), 0);
        Kit.due("no STATUS by that", x.status(5), 1);
        int purse = x.buyer(0, 0);
        Kit.due("9999", x.purse(0, 0), purse);
        Kit.due("HOURS go on apart: 10020 is MICHAELMAS", x.purse(0, 21) != x.purse(0, 20), true);
        Kit.due("HOUR", x.count(6), 9999);
        x.undo();
        Kit.due("HOUR", x.count(6), 9998);
        Kit.due("the last goes by", x.run(0, 0), -1);
        x.hour();
        Kit.due("HOUR", x.count(6), 9999);
    }

    private static void fullTreasury() {
        NearlyBought x = Kit.city("sy2r8i30;tp99;tp99;tp99;tp99;tp99;tp99;b;b;b;b;b;b");
        Kit.law(x, "y:0");
        int paid = 0;
        for (int round = 0; round < 18; round++) {
            for (int b = 0; b < 6; b++) {
                x.pick(b, b);
                x.putBack(b);
                x.gift(b, 50);
                x.gift(b, 50);
            }
            x.hour();
            x.hour();
            paid = Math.min(9999, paid + 6 * 99);
            Kit.due("TREASURY", x.count(8), paid);
        }
        Kit.due("9999 at most", x.count(8), 9999);
    }

    public static void main(String[] args) {
        choosing();
        holding();
        noBill();
        buyingThen();
        fear();
        michaelmas();
        logs();
        last();
        fullTreasury();
        Kit.end();
    }
}
