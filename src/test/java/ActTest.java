/** Promises 12 to 15, 17 to 19 and 21: acts by hand and why they were refused. */
public final class ActTest {
    private static void status(NearlyBought x, int... want) {
        for (int what = 0; what < 6; what++) {
            Kit.due("status(" + what + ")", x.status(what), want[what]);
        }
    }

    private static void picking() {
        NearlyBought x = Kit.city("t;tp5w9;b;bd9");
        Kit.due("pick(2, 0)", x.pick(2, 0), -1);
        Kit.due("pick(0, 2)", x.pick(0, 2), -1);
        Kit.due("pick(-1, 0)", x.pick(-1, 0), -1);
        Kit.due("pick(0, -1)", x.pick(0, -1), -1);
        status(x, 4, 0, 0, 0, 0, 0);
        Kit.due("PICKED UP: LIKING", x.pick(1, 1), 45);
        Kit.due("he HOLDS", x.buyer(1, 4), 1);
        Kit.due("who HOLDS it", x.thing(1, 3), 1);
        Kit.due("not SOLD", x.thing(1, 4), 0);
        Kit.due("HOLDERS", x.all(6), 2);
        Kit.due("FREE", x.all(7), 1);
        Kit.due("not FREE ahead of HOLDS one", x.pick(1, 1), -1);
        status(x, 4, 0, 1, 0, 0, 0);
        Kit.due("HOLDS one", x.pick(1, 0), -1);
        status(x, 4, 0, 1, 1, 0, 0);
        Kit.due("not FREE", x.pick(0, 1), -1);
        status(x, 4, 0, 2, 1, 0, 0);
        Kit.due("one ACT", x.count(13), 1);
    }

    private static void puttingBack() {
        NearlyBought x = Kit.city("sr3;tp21s1;tp2;b;bk1;bk2");
        Kit.due("putBack(3)", x.putBack(3), -1);
        Kit.due("HOLDS none", x.putBack(0), -1);
        status(x, 1, 0, 1, 0, 0, 0);
        int[] due = {7, 3, 0};
        for (int b = 0; b < 3; b++) {
            x.pick(b, 0);
            Kit.due("put BACK", x.putBack(b), due[b]);
            Kit.due("it is FREE", x.thing(0, 3), -1);
            Kit.due("HOLDS none", x.buyer(b, 4), -1);
        }
        Kit.due("BILLS", x.count(9), 2);
        x.pick(0, 1);
        Kit.due("nothing due: no BILL", x.putBack(0), 0);
        Kit.due("BILLS", x.count(9), 2);
        x.clerk(1);
        x.pick(0, 0);
        Kit.due("the CLERK looks AWAY", x.putBack(0), 0);
        x.clerk(1);
        x.clerk(0);
        x.pick(0, 0);
        Kit.due("another CLERK looks AWAY", x.putBack(0), 7);
        x.rate(8);
        x.pick(0, 0);
        Kit.due("RATE 8", x.putBack(0), 21);
        x.pick(1, 0);
        Kit.due("with a stick", x.putBack(1), 10);
        x.rate(0);
        x.pick(0, 0);
        Kit.due("RATE 0", x.putBack(0), 0);
        Kit.due("BILLS", x.count(9), 5);
    }

    private static void mostBills() {
        NearlyBought x = Kit.city("sr8;tp9;tp7;b;b");
        x.pick(1, 1);
        x.putBack(1);
        for (int i = 0; i < 23; i++) {
            x.pick(0, 0);
            x.putBack(0);
        }
        Kit.due("24 BILLS", x.count(9), 24);
        Kit.due("the oldest is there", x.buyer(1, 5), 7);
        x.pick(0, 1);
        x.putBack(0);
        Kit.due("still 24", x.count(9), 24);
        Kit.due("the oldest was struck out", x.buyer(1, 5), 0);
        Kit.due("the newest is last", x.bill(0, 23, 0), 1);
        x.pick(0, 1);
        Kit.due("BOUGHT: one BILL", x.buy(0), 1);
        Kit.due("those for the other stay", x.buyer(0, 6), 23);
    }

    private static void billsMoveUp() {
        NearlyBought x = Kit.city("sr8;tp10;tp11;tp12;tp13;tp14;b");
        for (int i = 0; i < 30; i++) {
            x.pick(0, i * i % 5);
            x.putBack(0);
        }
        for (int i = 0; i < 24; i++) {
            int thing = (i + 6) * (i + 6) % 5;
            Kit.due("BILL " + i, x.bill(0, i, 0), thing);
            Kit.due("BILL " + i, x.bill(0, i, 2), 10 + thing);
        }
        x.pick(0, 1);
        Kit.due("struck out among others", x.buy(0), 10);
        for (int i = 0; i < 14; i++) {
            Kit.due("those for others stay", x.bill(0, i, 0) != 1, true);
        }
        Kit.due("how many", x.buyer(0, 6), 14);
    }

    private static void comingBack() {
        // Without h it is 2 HOURS.
        for (int hours = 0; hours < 5; hours++) {
            NearlyBought x = Kit.city("t;b");
            Kit.law(x, "y:0");
            x.pick(0, 0);
            x.putBack(0);
            for (int i = 0; i < hours; i++) {
                x.hour();
            }
            x.pick(0, 0);
            Kit.due("BOUGHT behind " + hours, x.buy(0), hours <= 2 ? 1 : 0);
        }
        NearlyBought x = Kit.city("sh0;t;b");
        x.pick(0, 0);
        x.putBack(0);
        x.pick(0, 0);
        Kit.due("in the same HOUR", x.buy(0), 1);
    }

    private static void handing() {
        NearlyBought x = Kit.city("tw9;tp99;b;b;b");
        Kit.due("no such", x.hand(3, 0), -1);
        Kit.due("no such", x.hand(0, -1), -1);
        Kit.due("no such ahead of alike", x.hand(7, 7), -1);
        Kit.due("alike", x.hand(1, 1), -1);
        Kit.due("HOLDS none", x.hand(0, 1), -1);
        status(x, 3, 1, 1, 0, 0, 0);
        x.pick(0, 1);
        x.pick(1, 0);
        Kit.due("the second HOLDS one", x.hand(0, 1), -1);
        status(x, 3, 1, 1, 1, 0, 0);
        Kit.due("first the first", x.hand(2, 1), -1);
        status(x, 3, 1, 2, 1, 0, 0);
        x.hour();
        Kit.due("HELD one HOUR", x.thing(1, 5), 1);
        Kit.due("the third HOLDS none", x.buyer(2, 4), -1);
        Kit.due("HANDED on: the THING", x.hand(0, 2), 1);
        Kit.due("how long goes on", x.thing(1, 5), 1);
        Kit.due("who HOLDS it", x.thing(1, 3), 2);
        Kit.due("the first HOLDS none", x.buyer(0, 4), -1);
        Kit.due("the third HOLDS it", x.buyer(2, 4), 1);
        Kit.due("put BACK: his BILL", x.putBack(2), 24);
        Kit.due("HELD no more", x.thing(1, 5), 0);
        Kit.due("DUE", x.buyer(2, 5), 24);
    }

    private static void buying() {
        NearlyBought x = Kit.city("sh1y30r8;tp20;tp10;tp31;bm30n9;bm0;bd0");
        Kit.law(x, "y:0");
        Kit.due("no such", x.buy(3), -1);
        Kit.due("HOLDS none", x.buy(0), -1);
        x.pick(0, 2);
        Kit.due("too little", x.buy(0), -1);
        status(x, 1, 0, 1, 0, 1, 0);
        x.putBack(0);
        for (int i = 0; i < 2; i++) {
            x.pick(0, 0);
            x.putBack(0);
            x.pick(1, 0);
            x.putBack(1);
            x.hour();
        }
        x.pick(0, 0);
        x.putBack(0);
        Kit.due("his BILLS", x.buyer(0, 6), 4);
        x.pick(0, 0);
        Kit.due("HOUR", x.count(6), 2);
        Kit.due("those of HOUR 1 and 2", x.buy(0), 2);
        Kit.due("his BILLS", x.buyer(0, 6), 2);
        Kit.due("the other's stay", x.buyer(1, 6), 2);
        Kit.due("PURSE", x.buyer(0, 0), 10);
        Kit.due("SOLD", x.thing(0, 4), 1);
        Kit.due("to whom", x.thing(0, 3), 0);
        Kit.due("HOLDS none", x.buyer(0, 4), -1);
        x.pick(0, 1);
        Kit.due("all that he has", x.buy(0), 0);
        Kit.due("PURSE", x.buyer(0, 0), 0);
        Kit.due("SOLD (bits)", x.all(8), 3);
        Kit.due("SOLD can't be picked up", x.pick(1, 1), -1);
        status(x, 1, 0, 2, 0, 1, 0);
    }

    private static void clerksAndRates() {
        NearlyBought x = new NearlyBought();
        Kit.due("no CITY ahead of no such SHOP", x.clerk(9), -1);
        Kit.due("no CITY ahead of out of bounds", x.rate(9), -1);
        Kit.due("no such BUYER ahead of out of bounds", x.gift(0, 99), -1);
        status(x, 3, 0, 0, 0, 0, 0);
        Kit.text(x, 0, "t;bm98;b");
        Kit.due("clerk(4)", x.clerk(4), -1);
        Kit.due("clerk(-1)", x.clerk(-1), -1);
        Kit.due("clerk(32)", x.clerk(32), -1);
        status(x, 3, 3, 0, 0, 0, 0);
        for (int shop = 0; shop < 4; shop++) {
            Kit.due("AWAY", x.clerk(shop), 1);
        }
        Kit.due("AWAY (bits)", x.all(11), 15);
        Kit.due("not any more", x.clerk(1), 0);
        Kit.due("AWAY (bits)", x.all(11), 13);
        Kit.due("rate(9)", x.rate(9), -1);
        Kit.due("rate(-1)", x.rate(-1), -1);
        Kit.due("rate: it is so", x.rate(2), -1);
        status(x, 3, 5, 1, 0, 0, 0);
        Kit.due("rate(8): how it was", x.rate(8), 2);
        Kit.due("rate(0): how it was", x.rate(0), 8);
        Kit.due("RATE", x.count(7), 0);
        Kit.due("gift(2, 1)", x.gift(2, 1), -1);
        Kit.due("gift(0, 0)", x.gift(0, 0), -1);
        Kit.due("gift(0, 51)", x.gift(0, 51), -1);
        Kit.due("gift(0, max)", x.gift(0, Integer.MAX_VALUE), -1);
        status(x, 4, 8, 1, 0, 0, 0);
        for (int i = 1; i <= 18; i++) {
            Kit.due("gift", x.gift(0, 50), 98 + 50 * i);
        }
        Kit.due("above 999", x.gift(0, 2), -1);
        Kit.due("PURSE stays", x.buyer(0, 0), 998);
        Kit.due("999", x.gift(0, 1), 999);
        Kit.due("above 999", x.gift(0, 1), -1);
        status(x, 4, 10, 1, 0, 0, 0);
        Kit.due("status(6)", x.status(6), -1);
        Kit.due("status(-1)", x.status(-1), -1);
        x.undo();
        status(x, 4, 10, 1, 0, 0, 0);
    }

    public static void main(String[] args) {
        picking();
        puttingBack();
        mostBills();
        billsMoveUp();
        comingBack();
        handing();
        buying();
        clerksAndRates();
        Kit.end();
    }
}
