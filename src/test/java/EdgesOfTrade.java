/** Edges of the Terms' second part: THINGS, BILLS, HOURS, ACTS and their STATUS. */
final class EdgesOfTrade {
    private EdgesOfTrade() {
    }

    private static int liking(String city, String law) {
        NearlyBought x = Kit.city(city);
        if (!law.isEmpty()) {
            Kit.law(x, law);
        }
        return x.liking(0, 0);
    }

    /** A CITY in which nobody likes anything, so that HOURS leave all as it is. */
    private static NearlyBought calm(String city) {
        NearlyBought x = Kit.city(city);
        Kit.law(x, "y:0");
        return x;
    }

    private static void things() {
        Edge.terms("Each THING is FREE (in its SHOP), HELD by one BUYER, or SOLD to one; a BUYER HOLDS one at most.", () -> {
            NearlyBought x = Kit.city("t;t;b;b");
            Kit.due("FREE", x.all(7), 3);
            x.pick(0, 0);
            Kit.due("HELD by one", x.thing(0, 3), 0);
            Kit.due("another can't", x.pick(1, 0), -1);
            Kit.due("he HOLDS one at most", x.pick(0, 1), -1);
            Kit.due("FREE", x.all(7), 2);
            x.buy(0);
            Kit.due("SOLD to one", x.thing(0, 3), 0);
            Kit.due("SOLD", x.thing(0, 4), 1);
            Kit.due("he HOLDS it no more", x.buyer(0, 4), -1);
            Kit.due("nobody PICKS it UP", x.pick(0, 0) + x.pick(1, 0), -2);
            Kit.due("FREE", x.all(7), 2);
        });
        Edge.terms("LIKING of a BUYER for a THING: WORTH by the LAW that holds, held within 0 .. 99", () -> {
            int[] worth = {0, 1, 98, 99, 100, 101, 9999};
            for (int w : worth) {
                Kit.due("WORTH " + w, liking("t;b", "y:" + w), Math.min(99, w));
                Kit.due("WORTH -" + w, liking("t;b", "y:0-" + w), 0);
            }
            NearlyBought x = Kit.city("t;b");
            Kit.law(x, "y:1");
            Kit.text(x, 1, "y:2");
            Kit.due("by the LAW that holds", x.liking(0, 0), 1);
            x.law(1);
            Kit.due("by the LAW that holds", x.liking(0, 0), 2);
        });
        Edge.terms("(none at first: 4 times DESIRE, and WEIGHT);", () -> {
            Kit.due("0 and 0", liking("tw0;bd0", ""), 0);
            Kit.due("9 and 0", liking("tw0;bd9", ""), 36);
            Kit.due("0 and 9", liking("tw9;bd0", ""), 9);
            Kit.due("9 and 9", liking("tw9;bd9", ""), 45);
            NearlyBought x = Kit.city("tw1;bd1");
            Kit.law(x, "y:50");
            x.law(-1);
            Kit.due("none again", x.liking(0, 0), 5);
        });
        Edge.terms("letters: p PRICE, w WEIGHT, d DESIRE, m PURSE now, s SHOP,", () -> {
            String letters = "pwdms";
            int[] told = {41, 7, 6, 83, 3};
            for (int i = 0; i < 5; i++) {
                Kit.due(letters.substring(i, i + 1), liking("tp41w7s3;bm83d6", "y:" + letters.charAt(i)), told[i]);
            }
            NearlyBought x = Kit.city("tp5;tp20;bm30");
            Kit.law(x, "y:m");
            x.pick(0, 0);
            x.buy(0);
            Kit.due("PURSE now", x.liking(0, 1), 25);
            x.gift(0, 50);
            Kit.due("PURSE now", x.liking(0, 1), 75);
            Kit.law(x, "y:m-900");
            Edge.give(x, 0, 924);
            Kit.due("PURSE 999", x.liking(0, 1), 99);
            x.undo();
            Kit.due("PURSE 975", x.liking(0, 1), 75);
        });
        Edge.terms("h the HOUR modulo 24.", () -> {
            NearlyBought x = Kit.city("t;b");
            Kit.law(x, "y:h");
            for (int hour = 0; hour <= 73; hour++) {
                Kit.due("in the HOUR " + hour, x.liking(0, 0), hour % 24);
                x.hour();
            }
            Kit.due("in the HOUR 9,999", Edge.late("t;b", "y:h", 0).liking(0, 0), 15);
        });
    }

    private static void bills() {
        Edge.terms("A BILL: the BUYER, the THING, the HOUR in which it was written, what is due:", () -> {
            NearlyBought x = calm("sr8;tp7;tp9;b;b");
            Kit.due("none at first", x.count(9) + x.bill(0, 0, 0), -1);
            Edge.touch(x, 1, 0);
            x.hour();
            Edge.touch(x, 1, 1);
            Kit.due("the BUYER", x.buyer(1, 6) - x.buyer(0, 6), 2);
            Kit.due("the THING", x.bill(1, 0, 0), 0);
            Kit.due("the HOUR", x.bill(1, 0, 1), 0);
            Kit.due("what is due", x.bill(1, 0, 2), 7);
            Kit.due("the THING", x.bill(1, 1, 0), 1);
            Kit.due("the HOUR", x.bill(1, 1, 1), 1);
            Kit.due("what is due", x.bill(1, 1, 2), 9);
            // What an HOUR itself puts BACK is written in the HOUR that goes by.
            NearlyBought y = calm("t;b");
            y.pick(0, 0);
            Edge.hours(y, 2);
            Kit.due("by an HOUR", y.bill(0, 0, 1), 1);
        });
        Edge.terms("PRICE times RATE by 8, cut; with a stick half of that, cut; a thief nothing (none is written).", () -> {
            int[] prices = {1, 2, 3, 7, 8, 9, 15, 16, 17, 98, 99};
            for (int price : prices) {
                for (int rate = 0; rate <= 8; rate++) {
                    NearlyBought x = Kit.city("sr" + rate + ";tp" + price + ";b;bk1;bk2");
                    int due = price * rate / 8;
                    String of = price + " by " + rate;
                    Kit.due("by hand " + of, Edge.touch(x, 0, 0), due);
                    Kit.due("with a stick " + of, Edge.touch(x, 1, 0), due / 2);
                    Kit.due("a thief " + of, Edge.touch(x, 2, 0), 0);
                    Kit.due("written " + of, x.count(9), (due > 0 ? 1 : 0) + (due > 1 ? 1 : 0));
                }
            }
            NearlyBought x = Kit.city("sr2;tp99;b");
            x.rate(8);
            Kit.due("RATE now, not as told", Edge.touch(x, 0, 0), 99);
        });
        Edge.terms("He PICKS UP: a FREE THING, while he HOLDS none.", () -> {
            NearlyBought x = Kit.city("t;t;t;b;b");
            Kit.due("a FREE THING", x.pick(0, 0) >= 0, true);
            Kit.due("HELD by himself", x.pick(0, 0), -1);
            Kit.due("HELD by another", x.pick(1, 0), -1);
            Kit.due("he HOLDS one", x.pick(0, 1), -1);
            x.putBack(0);
            Kit.due("he HOLDS none", x.pick(0, 1) >= 0, true);
            Kit.due("FREE again", x.pick(1, 0) >= 0, true);
            x.buy(1);
            Kit.due("SOLD", x.pick(1, 0), -1);
            Kit.due("he HOLDS none behind it", x.pick(1, 2) >= 0, true);
        });
        Edge.terms("He puts BACK: what he HOLDS is FREE;", () -> {
            NearlyBought x = calm("tw9;b");
            x.pick(0, 0);
            x.hour();
            x.putBack(0);
            Kit.due("FREE", x.all(7), 1);
            Kit.due("he HOLDS none", x.buyer(0, 4), -1);
            Kit.due("nobody HOLDS it", x.thing(0, 3), -1);
            Kit.due("HELD no more", x.thing(0, 5), 0);
            Kit.due("there is nothing more to put BACK", x.putBack(0), -1);
        });
        Edge.terms("the CLERK of its SHOP writes a BILL (not, if what is due is 0, if the CLERK looks AWAY);", () -> {
            NearlyBought x = Kit.city("sr7;tp1;tp2;b");
            Kit.due("7 eighths of 1", Edge.touch(x, 0, 0), 0);
            Kit.due("no BILL", x.count(9), 0);
            Kit.due("7 eighths of 2", Edge.touch(x, 0, 1), 1);
            Kit.due("a BILL", x.count(9), 1);
            for (int shop = 0; shop < 4; shop++) {
                for (int away = 0; away < 4; away++) {
                    NearlyBought y = Kit.city("sr8;tp5s" + shop + ";b");
                    y.clerk(away);
                    Kit.due("SHOP " + shop + ", AWAY " + away, Edge.touch(y, 0, 0), shop == away ? 0 : 5);
                    Kit.due("BILLS", y.count(9), shop == away ? 0 : 1);
                    y.clerk(away);
                    Kit.due("not AWAY any more", Edge.touch(y, 0, 0), 5);
                }
            }
        });
        Edge.terms("there are 24 BILLS at most: the oldest is struck out then.", () -> {
            NearlyBought x = Kit.city("sr8;tp1;tp2;tp3;b;b");
            Edge.touch(x, 1, 2);
            for (int i = 0; i < 22; i++) {
                Edge.touch(x, 0, 0);
            }
            Kit.due("23", x.count(9), 23);
            Edge.touch(x, 0, 1);
            Kit.due("24", x.count(9), 24);
            Kit.due("the oldest", x.buyer(1, 5), 3);
            x.clerk(0);
            Edge.touch(x, 0, 1);
            Kit.due("none is written, none struck out", x.buyer(1, 5), 3);
            x.clerk(0);
            Kit.due("one more", Edge.touch(x, 0, 1), 2);
            Kit.due("still 24", x.count(9), 24);
            Kit.due("the oldest is struck out", x.buyer(1, 6), 0);
            Kit.due("the next oldest", x.bill(0, 0, 0), 0);
            Kit.due("the last but one", x.bill(0, 22, 0), 1);
            Kit.due("the last", x.bill(0, 23, 0), 1);
            Kit.due("none behind it", x.bill(0, 24, 0), -1);
            Kit.due("DUE", x.all(10), 22 + 2 * 2);
        });
    }

    private static void hands() {
        Edge.terms("He HANDS on: the other one HOLDS it then, who held none (how long it was HELD goes on).", () -> {
            NearlyBought x = calm("tw9;t;b;b;b");
            x.pick(0, 0);
            Edge.hours(x, 2);
            x.pick(1, 1);
            Kit.due("who HOLDS one", x.hand(0, 1), -1);
            Kit.due("who held none", x.hand(0, 2), 0);
            Kit.due("the other one HOLDS it", x.buyer(2, 4), 0);
            Kit.due("he does not", x.buyer(0, 4), -1);
            Kit.due("HELD", x.thing(0, 5), 2);
            x.hour();
            Kit.due("it goes on", x.thing(0, 5), 3);
        });
        Edge.terms("He BUYS what he HOLDS: PURSE less by PRICE (there must be so much); it is SOLD to him;", () -> {
            for (int purse = 0; purse <= 2; purse++) {
                NearlyBought x = Kit.city("tp51;bm" + (50 + purse));
                Kit.due("he HOLDS none", x.buy(0), -1);
                x.pick(0, 0);
                boolean enough = purse >= 1;
                Kit.due("PURSE " + (50 + purse), x.buy(0), enough ? 0 : -1);
                Kit.due("PURSE then", x.buyer(0, 0), enough ? purse - 1 : 50);
                Kit.due("SOLD", x.thing(0, 4), enough ? 1 : 0);
                Kit.due("he HOLDS", x.buyer(0, 4), enough ? -1 : 0);
            }
            NearlyBought x = Kit.city("tp1;bm0");
            x.pick(0, 0);
            Kit.due("an empty PURSE", x.buy(0), -1);
            x.gift(0, 1);
            Kit.due("all that he has", x.buy(0), 0);
            Kit.due("PURSE", x.buyer(0, 0), 0);
        });
        Edge.terms("his BILLS for it that were written no more than BACK HOURS ago are struck out.", () -> {
            NearlyBought x = calm("sh3y30r8;tp10;tp11;b;b");
            for (int hour = 0; hour <= 4; hour++) {
                Edge.touch(x, 0, 0);
                Edge.touch(x, 0, 1);
                Edge.touch(x, 1, 0);
                x.hour();
            }
            Kit.due("HOUR", x.count(6), 5);
            x.pick(0, 0);
            Kit.due("those of the HOURS 2, 3 and 4", x.buy(0), 3);
            Kit.due("his: those of the HOURS 0 and 1, and for the other THING", x.buyer(0, 6), 7);
            Kit.due("HOUR of the first", x.bill(0, 0, 1), 0);
            Kit.due("THING of the third", x.bill(0, 2, 0), 0);
            Kit.due("HOUR of the third", x.bill(0, 2, 1), 1);
            Kit.due("THING of the fifth", x.bill(0, 4, 0), 1);
            Kit.due("the other BUYER's", x.buyer(1, 6), 5);
            // By handing on: the BILLS of him who BUYS.
            NearlyBought y = calm("sr8;tp10;b;b");
            Edge.touch(y, 0, 0);
            Edge.touch(y, 1, 0);
            y.pick(0, 0);
            y.hand(0, 1);
            Kit.due("his", y.buy(1), 1);
            Kit.due("the first one's stays", y.buyer(0, 6), 1);
            // By an HOUR, too.
            NearlyBought z = Kit.city("sr8;tp10;b");
            Edge.touch(z, 0, 0);
            z.pick(0, 0);
            z.hour();
            Kit.due("SOLD by an HOUR", z.all(8), 1);
            Kit.due("its BILL is struck out", z.count(9), 0);
        });
        Edge.terms("DUE of a BUYER: what is due by all his BILLS.", () -> {
            NearlyBought x = Kit.city("sr8;tp10;tp99;b;b");
            Kit.due("none", x.buyer(0, 5), 0);
            Edge.touch(x, 0, 0);
            Kit.due("one", x.buyer(0, 5), 10);
            for (int i = 0; i < 23; i++) {
                Edge.touch(x, 0, 1);
            }
            Kit.due("24", x.buyer(0, 5), 10 + 23 * 99);
            Edge.touch(x, 0, 1);
            Kit.due("most", x.buyer(0, 5), 24 * 99);
            Kit.due("another's", x.buyer(1, 5), 0);
        });
    }

    private static void anHour() {
        Edge.terms("An HOUR (0 at first; 9,999 at most: none goes by then):", () -> {
            Kit.due("at first", Kit.city("t;b").count(6), 0);
            NearlyBought x = Edge.late("tw0;bd0", "", 1);
            Kit.due("the HOUR", x.count(6), 9998);
            Kit.due("one goes by", x.hour(), 0);
            Kit.due("the HOUR", x.count(6), 9999);
            Kit.due("none goes by", x.hour(), -1);
            Kit.due("the HOUR", x.count(6), 9999);
        });
        Edge.terms("(i) each BUYER by numbers who HOLDS one: is LIKING its PRICE or more and PURSE, too, he BUYS;", () -> {
            for (int liking = 39; liking <= 41; liking++) {
                for (int purse = 39; purse <= 41; purse++) {
                    NearlyBought x = Kit.city("tp40w9;bm" + purse);
                    Kit.law(x, "y:" + liking);
                    x.pick(0, 0);
                    x.hour();
                    boolean buys = liking >= 40 && purse >= 40;
                    Kit.due("LIKING " + liking + ", PURSE " + purse, x.thing(0, 4), buys ? 1 : 0);
                    Kit.due("PURSE", x.buyer(0, 0), buys ? purse - 40 : purse);
                }
            }
            NearlyBought x = Kit.city("tp40;bm99");
            Kit.law(x, "y:99");
            x.hour();
            Kit.due("who HOLDS none does not BUY", x.all(8), 0);
            Kit.due("he PICKS it UP behind that", x.all(6), 1);
            // A LAW by PURSES: who comes first has paid when the next one looks.
            NearlyBought y = Kit.city("tp10;tp10;b;b");
            y.pick(1, 0);
            y.pick(0, 1);
            y.hour();
            Kit.due("each of them", y.all(8), 3);
        });
        Edge.terms("else, was it HELD for more HOURS than a third of its WEIGHT, cut, he puts it BACK;", () -> {
            for (int weight = 0; weight <= 9; weight++) {
                NearlyBought x = calm("tp99w" + weight + ";b");
                x.pick(0, 0);
                int hours = 0;
                while (x.buyer(0, 4) == 0 && hours < 20) {
                    x.hour();
                    hours++;
                }
                Kit.due("WEIGHT " + weight, hours, weight / 3 + 2);
                Kit.due("a BILL", x.buyer(0, 5), 24);
            }
        });
        Edge.terms("else it was HELD one HOUR more (0 as it is picked up);", () -> {
            NearlyBought x = calm("tp99w9;b");
            Kit.due("FREE", x.thing(0, 5), 0);
            x.pick(0, 0);
            for (int held = 0; held <= 4; held++) {
                Kit.due("HELD", x.thing(0, 5), held);
                x.hour();
            }
            Kit.due("put BACK", x.thing(0, 5), 0);
            x.pick(0, 0);
            Kit.due("picked up again", x.thing(0, 5), 0);
            NearlyBought y = Kit.city("tp99;b");
            y.hour();
            Kit.due("picked up by an HOUR", y.thing(0, 3), 0);
            Kit.due("0 as it is picked up", y.thing(0, 5), 0);
        });
        Edge.terms("(ii) each BUYER by numbers who HOLDS none then, and whose DUE is 6 times NERVE or less, PICKS UP:", () -> {
            for (int nerve = 0; nerve <= 9; nerve++) {
                for (int above = -1; above <= 1; above++) {
                    int due = 6 * nerve + above;
                    if (due < 0) {
                        continue;
                    }
                    NearlyBought x = Kit.city("sr8;t;tp" + Math.max(1, due) + ";bn" + nerve);
                    if (due > 0) {
                        Edge.touch(x, 0, 1);
                    }
                    Kit.due("DUE", x.buyer(0, 5), due);
                    Kit.due("NERVE " + nerve + ", DUE " + due, x.hour(), above <= 0 ? 1 : 0);
                }
            }
            // Who put it BACK or bought it in the same HOUR HOLDS none then.
            NearlyBought x = Kit.city("sr4;tp99w0;t;bm99n9");
            x.pick(0, 0);
            Edge.hours(x, 2);
            Kit.due("put BACK, then picked up another", x.buyer(0, 4), 1);
            Kit.due("the BILL", x.buyer(0, 5), 49);
            NearlyBought y = Kit.city("tp10;t;bm99");
            y.pick(0, 0);
            y.hour();
            Kit.due("bought, then picked up another", y.buyer(0, 4), 1);
            // By numbers: the first one takes it.
            NearlyBought z = Kit.city("t;b;b;b");
            Kit.due("the first of all", z.hour(), 1);
        });
        Edge.terms("of all FREE THINGS that he has no BILL for and for which LIKING is above 0 that with most LIKING", () -> {
            NearlyBought x = Kit.city("tp99w1;tp99w2;tp99w3;tp99w4;bd0n9;bd0n9");
            Edge.touch(x, 0, 3);
            x.pick(1, 2);
            x.hour();
            Kit.due("not 3 (a BILL), not 2 (HELD)", x.buyer(0, 4), 1);
            NearlyBought y = Kit.city("tp99w1;tp99w2;bd0n9;bd0n9");
            Edge.touch(y, 0, 1);
            y.pick(0, 0);
            y.hour();
            Kit.due("another's BILL is none of his", y.buyer(1, 4), 1);
            // Of several BILLS each one counts, whoever's the others are.
            NearlyBought bills = Kit.city("sr1;tp99w5;tp98w4;tp97w3;tp96w2;tp95w1;bd0n9;bd0n9");
            Edge.touch(bills, 1, 4);
            Edge.touch(bills, 0, 0);
            Edge.touch(bills, 1, 2);
            Edge.touch(bills, 0, 1);
            Edge.touch(bills, 0, 2);
            bills.hour();
            Kit.due("not 0, 1, 2", bills.buyer(0, 4), 3);
            Kit.due("not 2 and 4", bills.buyer(1, 4), 0);
            for (int liking = 0; liking <= 1; liking++) {
                NearlyBought z = Kit.city("t;b");
                Kit.law(z, "y:" + liking);
                Kit.due("LIKING " + liking, z.hour(), liking);
            }
        });
        Edge.terms("(of several the lowest; none: nothing);", () -> {
            NearlyBought x = Kit.city("tw1;tw3;tw3;tw3;b");
            x.hour();
            Kit.due("the lowest", x.buyer(0, 4), 1);
            NearlyBought y = calm("t;t;b");
            Kit.due("none is liked", y.hour(), 0);
            NearlyBought z = Kit.city("t;b;b");
            z.pick(0, 0);
            z.buy(0);
            Kit.due("all are SOLD", z.hour(), 0);
            NearlyBought w = Kit.city("t;bn9");
            Edge.touch(w, 0, 0);
            Kit.due("a BILL for all", w.hour(), 0);
        });
    }

    private static void michaelmas() {
        Edge.terms("(iii) the HOUR is one later; is it a whole number of times MICHAELMAS then,", () -> {
            int[] after = {2, 3, 12, 29, 30};
            for (int every : after) {
                NearlyBought x = calm("si1y" + every + ";t;bm0");
                for (int hour = 1; hour <= 2 * every + 1; hour++) {
                    x.hour();
                    Kit.due("HOUR", x.count(6), hour);
                    Kit.due("MICHAELMAS each " + every + ", HOUR " + hour, x.buyer(0, 0), hour / every);
                }
            }
        });
        Edge.terms("each BUYER by numbers pays what is DUE (as much as he has) into the TREASURY", () -> {
            int[] purses = {0, 1, 9, 10, 11};
            for (int purse : purses) {
                NearlyBought x = calm("sr8y2i0;tp10;bm" + purse + ";bm7");
                Edge.touch(x, 0, 0);
                Edge.hours(x, 2);
                Kit.due("TREASURY by " + purse, x.count(8), Math.min(10, purse));
                Kit.due("PURSE of " + purse, x.buyer(0, 0), Math.max(0, purse - 10));
                Kit.due("who has no BILL", x.buyer(1, 0), 7);
            }
        });
        Edge.terms("(0 at first, 9,999 at most),", () -> {
            Kit.due("at first", Kit.city("t;b").count(8), 0);
            for (int more = 494; more <= 496; more++) {
                NearlyBought x = nearlyFull();
                Kit.due("TREASURY", x.count(8), 9504);
                for (int b = 0; b < 4; b++) {
                    Edge.touch(x, b, 0);
                }
                owe(x, 4, more - 396);
                Edge.hours(x, 2);
                Kit.due("TREASURY and " + more, x.count(8), Math.min(9999, 9504 + more));
                owe(x, 5, 5);
                int purse = x.buyer(5, 0);
                Kit.due("ahead", x.treasury(2), 9999);
                Edge.hours(x, 2);
                Kit.due("TREASURY and 5", x.count(8), 9999);
                Kit.due("he pays all the same", x.buyer(5, 0), purse - 5 + 30);
            }
        });
        Edge.terms("all BILLS are struck out,", () -> {
            NearlyBought x = calm("sr8y2;tp10;bm0;bm5;bm50");
            for (int b = 0; b < 3; b++) {
                Edge.touch(x, b, 0);
            }
            x.hour();
            Kit.due("not yet", x.count(9), 3);
            x.hour();
            Kit.due("all", x.count(9), 0);
            Kit.due("what was not paid, too", x.buyer(0, 5) + x.buyer(1, 5), 0);
            Edge.hours(x, 2);
            Kit.due("it is not paid later", x.count(8), 15);
        });
        Edge.terms("each PURSE is more by INCOME (999 at most);", () -> {
            int[] purses = {0, 968, 969, 970, 999};
            for (int purse : purses) {
                NearlyBought x = calm("sr8y2i30;tp10;bm0");
                Edge.give(x, 0, purse);
                Edge.hours(x, 2);
                Kit.due("PURSE of " + purse, x.buyer(0, 0), Math.min(999, purse + 30));
            }
            NearlyBought x = calm("sr8y2i30;tp10;bm0");
            Edge.give(x, 0, 999);
            Edge.touch(x, 0, 0);
            Edge.hours(x, 2);
            Kit.due("he pays ahead of that", x.buyer(0, 0), 999);
        });
        Edge.terms("(iv) the LOG: who HOLDS one (bits), how many BILLS there are, TREASURY (the latest 60).", () -> {
            NearlyBought x = calm("sr8y2i0;tp1;tp9w9;b;b");
            Kit.due("none at first", x.count(12), 0);
            x.pick(1, 1);
            for (int hour = 1; hour <= 62; hour++) {
                if (hour % 2 == 1) {
                    Edge.touch(x, 0, 0);
                }
                x.hour();
                Kit.due("how long", x.count(12), Math.min(60, hour));
            }
            for (int i = 0; i < 60; i++) {
                int hour = 62 - i;
                Kit.due("HOLDERS", x.log(i, 0), hour < 5 ? 2 : 0);
                Kit.due("BILLS", x.log(i, 1), hour % 2 == 1 ? hour == 5 ? 2 : 1 : 0);
                Kit.due("TREASURY", x.log(i, 2), Math.min(30, hour / 2) + (hour >= 6 ? 9 : 0));
            }
            Kit.due("the 61st", x.log(60, 0), -1);
        });
    }

    /** TREASURY is 9,504 and no BILL is there; each PURSE has some hundreds; PRICES are 99 and 64, 32 .. 1. */
    private static NearlyBought nearlyFull() {
        NearlyBought x = calm("sr8y2i30;tp99;tp64;tp32;tp16;tp8;tp4;tp2;tp1;b;b;b;b;b;b");
        x.tempted(0);
        for (int b = 0; b < 6; b += 2) {
            String touch = "p" + b + "0;b" + b + ";";
            String other = "p" + (b + 1) + "0;b" + (b + 1) + ";";
            String day = touch.repeat(4) + other.repeat(4);
            Kit.day(x, day.substring(0, day.length() - 1));
        }
        for (int round = 0; round < 4; round++) {
            x.years(30, round);
            for (int day = 0; day < 3; day++) {
                x.perform(day);
            }
            Edge.hours(x, 2);
        }
        return x;
    }

    /** He owes so much (below 128), by THINGS of 64, 32 .. 1. */
    private static void owe(NearlyBought x, int buyer, int due) {
        for (int bit = 0; bit < 7; bit++) {
            if ((due >> bit & 1) == 1) {
                Edge.touch(x, buyer, 7 - bit);
            }
        }
    }

    private static void byHand() {
        Edge.terms("By hand: PICK UP, put BACK, HAND on, BUY, an HOUR;", () -> {
            NearlyBought x = Kit.city("sr8;tp10;t;b;b");
            Kit.due("PICK UP", x.pick(0, 0), 22);
            Kit.due("HAND on", x.hand(0, 1), 0);
            Kit.due("put BACK", x.putBack(1), 10);
            x.pick(1, 0);
            Kit.due("BUY", x.buy(1), 1);
            Kit.due("an HOUR", x.hour(), 1);
            Kit.due("each is an ACT", x.count(13), 6);
        });
        Edge.terms("a CLERK (of a SHOP 0 .. 3) looks AWAY, or not any more;", () -> {
            NearlyBought x = Kit.city("t;b");
            for (int shop = 0; shop < 4; shop++) {
                Kit.due("AWAY", x.clerk(shop), 1);
                Kit.due("he alone", x.all(11), 1 << shop);
                Kit.due("not any more", x.clerk(shop), 0);
                Kit.due("none", x.all(11), 0);
            }
            Kit.due("SHOP -1", x.clerk(-1), -1);
            Kit.due("SHOP 4", x.clerk(4), -1);
            Kit.due("SHOP 32", x.clerk(32), -1);
        });
        Edge.terms("RATE is set (0 .. 8);", () -> {
            for (int v = -1; v <= 9; v++) {
                NearlyBought x = Kit.city("sr" + (v == 5 ? 4 : 5) + ";t;b");
                int before = x.count(7);
                boolean within = v >= 0 && v <= 8;
                Kit.due("RATE " + v, x.rate(v), within ? before : -1);
                Kit.due("RATE then", x.count(7), within ? v : before);
            }
        });
        Edge.terms("a PURSE gets n (1 .. 50) more (999 at most).", () -> {
            int[] gifts = {-1, 0, 1, 2, 49, 50, 51};
            for (int n : gifts) {
                NearlyBought x = Kit.city("t;bm40");
                boolean within = n >= 1 && n <= 50;
                Kit.due("n " + n, x.gift(0, n), within ? 40 + n : -1);
                Kit.due("PURSE", x.buyer(0, 0), within ? 40 + n : 40);
            }
            NearlyBought x = Kit.city("t;bm99");
            Edge.give(x, 0, 850);
            Kit.due("949 and 51", x.gift(0, 51), -1);
            Kit.due("949 and 50", x.gift(0, 50), 999);
            Kit.due("999 and 1", x.gift(0, 1), -1);
            x.undo();
            x.gift(0, 1);
            Kit.due("950 and 50", x.gift(0, 50), -1);
            Kit.due("950 and 49", x.gift(0, 49), 999);
        });
        Edge.terms("All these are ACTS: the latest 40 can be UNDONE one by one (LOG, too).", () -> {
            NearlyBought x = Kit.city("t;bm0");
            Kit.due("none at first", x.count(13), 0);
            Kit.due("none", x.undo(), -1);
            for (int acts = 1; acts <= 42; acts++) {
                x.gift(0, 1);
                Kit.due("ACTS", x.count(13), Math.min(40, acts));
            }
            for (int left = 39; left >= 0; left--) {
                Kit.due("UNDONE", x.undo(), left);
                Kit.due("PURSE", x.buyer(0, 0), left + 2);
            }
            Kit.due("the first two can't be", x.undo(), -1);
            Kit.due("PURSE", x.buyer(0, 0), 2);
            everyActUndone();
            fullLogUndone();
        });
    }

    private static void everyActUndone() {
        NearlyBought x = calm("sr8y3;tp10w9s1;tp20;b;b");
        int[] expected = new int[10];
        String[] looked = new String[9];
        for (int act = 0; act < 9; act++) {
            looked[act] = seenOf(x);
            expected[act] = act;
            act(x, act);
            Kit.due("ACTS", x.count(13), act + 1);
        }
        for (int act = 8; act >= 0; act--) {
            Kit.due("UNDONE", x.undo(), expected[act]);
            Kit.due("as it was ahead of ACT " + act, seenOf(x).equals(looked[act]), true);
        }
    }

    private static void act(NearlyBought x, int act) {
        switch (act) {
            case 0 -> x.pick(0, 0);
            case 1 -> x.hour();
            case 2 -> x.hand(0, 1);
            case 3 -> x.clerk(2);
            case 4 -> x.putBack(1);
            case 5 -> x.rate(3);
            case 6 -> x.gift(1, 9);
            case 7 -> x.pick(1, 0);
            default -> x.buy(1);
        }
    }

    private static String seenOf(NearlyBought x) {
        StringBuilder s = new StringBuilder();
        for (int what = 6; what < 10; what++) {
            s.append(x.count(what)).append(' ');
        }
        for (int what = 0; what < 6; what++) {
            s.append(x.thing(0, what)).append(' ');
        }
        for (int what = 0; what < 7; what++) {
            s.append(x.buyer(0, what)).append(' ').append(x.buyer(1, what)).append(' ');
        }
        return s.append(x.bill(1, 0, 2)).append(' ').append(x.all(11)).append(' ').append(x.count(12)).toString();
    }

    private static void fullLogUndone() {
        // A LOG of 60 loses its oldest with the next HOUR and has it again when that is UNDONE.
        NearlyBought x = calm("sr8y2i0;tp1;b");
        Edge.touch(x, 0, 0);
        x.hour();
        x.years(30, 0);
        x.years(29, 0);
        Kit.due("the oldest", x.log(59, 1), 1);
        x.hour();
        Kit.due("the oldest is gone", x.log(59, 1), 0);
        Kit.due("UNDONE", x.undo(), 39);
        Kit.due("60 still", x.count(12), 60);
        Kit.due("the oldest again", x.log(59, 1), 1);
    }

    private static void status() {
        Edge.terms("STATUS: how many ACTS were refused as there was no such one (0),", () -> {
            NearlyBought x = Kit.city("t;b");
            x.pick(1, 0);
            x.pick(0, 1);
            x.putBack(1);
            x.hand(0, 1);
            x.hand(1, 0);
            x.buy(1);
            x.gift(1, 1);
            status(x, 7, 0, 0, 0, 0, 0);
            NearlyBought y = new NearlyBought();
            y.hour();
            y.clerk(0);
            y.rate(1);
            y.pick(0, 0);
            y.putBack(0);
            y.hand(0, 1);
            y.buy(0);
            y.gift(0, 1);
            status(y, 8, 0, 0, 0, 0, 0);
        });
        Edge.terms("out of bounds, alike, above 999 (1),", () -> {
            NearlyBought x = Kit.city("t;bm99");
            x.clerk(4);
            x.clerk(-1);
            status(x, 0, 2, 0, 0, 0, 0);
            x.rate(9);
            x.rate(-1);
            status(x, 0, 4, 0, 0, 0, 0);
            x.gift(0, 0);
            x.gift(0, 51);
            status(x, 0, 6, 0, 0, 0, 0);
            x.hand(0, 0);
            status(x, 0, 7, 0, 0, 0, 0);
            Edge.give(x, 0, 900);
            status(x, 0, 7, 0, 0, 0, 0);
            x.gift(0, 1);
            status(x, 0, 8, 0, 0, 0, 0);
        });
        Edge.terms("it is so, not FREE, he HOLDS none (2),", () -> {
            NearlyBought x = Kit.city("sr2;t;b;b");
            x.rate(2);
            status(x, 0, 0, 1, 0, 0, 0);
            x.pick(0, 0);
            x.pick(1, 0);
            status(x, 0, 0, 2, 0, 0, 0);
            x.putBack(1);
            x.hand(1, 0);
            x.buy(1);
            status(x, 0, 0, 5, 0, 0, 0);
            x.buy(0);
            x.pick(1, 0);
            status(x, 0, 0, 6, 0, 0, 0);
        });
        Edge.terms("he HOLDS one (3),", () -> {
            NearlyBought x = Kit.city("t;t;t;b;b");
            x.pick(0, 0);
            x.pick(0, 1);
            status(x, 0, 0, 0, 1, 0, 0);
            x.pick(1, 1);
            x.hand(0, 1);
            status(x, 0, 0, 0, 2, 0, 0);
        });
        Edge.terms("too little in his PURSE (4),", () -> {
            NearlyBought x = Kit.city("tp31;bm30");
            x.pick(0, 0);
            x.buy(0);
            status(x, 0, 0, 0, 0, 1, 0);
            x.gift(0, 1);
            x.buy(0);
            status(x, 0, 0, 0, 0, 1, 0);
        });
        Edge.terms("beyond the last HOUR (5);", () -> {
            NearlyBought x = Edge.late("t;b", "y:0", 1);
            x.hour();
            status(x, 0, 0, 0, 0, 0, 0);
            x.hour();
            x.hour();
            status(x, 0, 0, 0, 0, 0, 2);
        });
        Edge.terms("of several the first;", () -> {
            NearlyBought x = Kit.city("t;t;b;b");
            x.pick(0, 0);
            x.pick(0, 2);
            status(x, 1, 0, 0, 0, 0, 0);
            x.pick(0, 0);
            status(x, 1, 0, 1, 0, 0, 0);
            x.hand(2, 2);
            status(x, 2, 0, 1, 0, 0, 0);
            x.hand(1, 1);
            status(x, 2, 1, 1, 0, 0, 0);
            x.hand(0, 0);
            status(x, 2, 2, 1, 0, 0, 0);
            x.hand(1, 0);
            status(x, 2, 2, 2, 0, 0, 0);
            x.gift(2, 51);
            status(x, 3, 2, 2, 0, 0, 0);
            NearlyBought y = new NearlyBought();
            y.clerk(4);
            y.rate(9);
            status(y, 2, 0, 0, 0, 0, 0);
        });
        Edge.terms("not UNDONE.", () -> {
            NearlyBought x = Kit.city("t;b");
            x.gift(0, 1);
            x.gift(0, 51);
            x.putBack(0);
            x.image();
            x.undo();
            status(x, 0, 1, 1, 0, 0, 0);
            x.back();
            status(x, 0, 1, 1, 0, 0, 0);
        });
    }

    private static void status(NearlyBought x, int... want) {
        for (int what = 0; what < 6; what++) {
            Kit.due("status(" + what + ")", x.status(what), want[what]);
        }
    }

    static void run() {
        things();
        bills();
        hands();
        anHour();
        michaelmas();
        byHand();
        status();
    }
}
