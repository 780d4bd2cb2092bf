/** Edges of the Terms' third part: what would be, what is best, what was SEEN, and the whole. */
final class EdgesOfOutlook {
    private EdgesOfOutlook() {
    }

    private static NearlyBought with(String city, String law) {
        NearlyBought x = Kit.city(city);
        Kit.law(x, law);
        return x;
    }

    private static void seek(NearlyBought x, int buyer, int n, int worth, int order) {
        Kit.due("seek(" + buyer + ", " + n + ", 0)", x.seek(buyer, n, 0), worth);
        Kit.due("seek(" + buyer + ", " + n + ", 1)", x.seek(buyer, n, 1), order);
    }

    private static void apart() {
        Edge.terms("(Apart, from as it is;", () -> {
            NearlyBought x = Kit.city("sr8y2;tp99w0;tp30;b;b");
            Kit.day(x, "p01;h;b0");
            Kit.text(x, 2, "h");
            x.pick(1, 0);
            x.hour();
            NearlyBought same = Kit.city("sr8y2;tp99w0;tp30;b;b");
            Kit.day(same, "p01;h;b0");
            Kit.text(same, 2, "h");
            same.pick(1, 0);
            same.hour();
            x.run(0, 0);
            x.run(1, 1);
            x.treasury(60);
            x.purse(0, 60);
            x.whose(0, 60);
            x.seek(0, 4, 0);
            x.raises(60, 0);
            x.selling(0, 0);
            x.desires(0, -1);
            x.ask(0);
            x.game(0, 0, 1, 1, 1);
            x.rests(0, 0, -1);
            x.odds(6, 1, 50);
            x.shares(0, 5);
            x.all(12);
            Kit.due("all is as it was", Looks.of(x).equals(Looks.of(same)), true);
            NearlyBought y = with("si7y2;t;b", "y:0");
            y.hour();
            Kit.due("from as it is: MICHAELMAS is one HOUR away", y.purse(0, 1), 37);
            Kit.due("and again", y.purse(0, 3), 44);
        });
        Edge.terms("HOURS go on behind 9,999, but not in RUN.)", () -> {
            NearlyBought x = Edge.late("sy30i7r8;tp99w0;tp50w9;bn9", "y:0", 0);
            Kit.due("HOUR", x.count(6), 9999);
            Kit.due("PURSE", x.buyer(0, 0), 999);
            // He PICKS it UP in the first HOUR, puts it BACK in the third; 10,020 is MICHAELMAS.
            Kit.law(x, "y:1");
            Kit.due("WHOSE in 1", x.whose(0, 1), 0);
            Kit.due("WHOSE in 3", x.whose(0, 3), -1);
            Kit.due("TREASURY in 20", x.treasury(20), 0);
            Kit.due("TREASURY in 21", x.treasury(21), 99);
            Kit.due("PURSE in 20", x.purse(0, 20), 999);
            Kit.due("PURSE in 21", x.purse(0, 21), 999 - 99 + 7);
            Kit.due("RAISES in 20", x.raises(20, 1), 0);
            Kit.due("RAISES in 21", x.raises(21, 1), 99);
            Kit.due("ODDS", x.odds(3, 99, 0), 1000000000);
            Kit.law(x, "y:99");
            Kit.due("SELLING", x.selling(0, 1), 2);
            Kit.law(x, "y:h=16?1");
            Kit.due("9,999 modulo 24 is 15", x.whose(0, 1), -1);
            Kit.due("10,000 modulo 24 is 16", x.whose(0, 2), 0);
            Kit.due("the HOUR stays", x.count(6), 9999);
            Kit.day(x, "h");
            Kit.day(x, "p00;h;b0");
            Kit.due("not in RUN", x.run(0, 0), 0);
            Kit.due("up to there", x.run(1, 0), 1);
            x.undo();
            Kit.due("9,998: one goes by", x.run(0, 0), -1);
        });
        Edge.terms("RUN of a DAY: behind how many STEPS the first is that can't be; how much is DUE of all behind it.", () -> {
            String city = "sr8y30;tp10;tp20;b;b";
            run(city, "b0;h;h", 0, 0);
            run(city, "p00;b0;b0;p11;b1", 2, 10);
            run(city, "p00;b0;p11;b1", -1, 30);
            run(city, "h", -1, 0);
            String touched = "p00;b0;p00;b0;p00;b0;p00;b0;p00;b0;p00;b0;p00;b0;p00;";
            run(city, touched + "b0", -1, 80);
            run(city, touched + "b1", 15, 70);
        });
        Edge.terms("DO: its STEPS as ACTS, up to there.", () -> {
            NearlyBought x = Kit.city("sr8y30;tp10;tp20;b;b");
            Kit.day(x, "p00;b0;b0;p11;b1");
            Kit.day(x, "p10;p10");
            Kit.day(x, "y1;h");
            Kit.day(x, "b0");
            Kit.due("two of them", x.perform(0), 2);
            Kit.due("ACTS", x.count(13), 2);
            Kit.due("BILLS", x.count(9), 1);
            Kit.due("none behind it", x.all(6), 0);
            Kit.due("one of them", x.perform(1), 1);
            Kit.due("all of them", x.perform(2), 2);
            Kit.due("ACTS", x.count(13), 5);
            Kit.due("HOUR", x.count(6), 1);
            Kit.due("UNDONE one by one", x.undo(), 4);
            Kit.due("HOUR", x.count(6), 0);
            Kit.due("it is SOLD still", x.all(8), 1);
            Kit.due("none", x.perform(3), 0);
            Kit.due("ACTS", x.count(13), 4);
        });
    }

    private static void run(String city, String day, int behind, int due) {
        NearlyBought x = Kit.city(city);
        Kit.day(x, day);
        Kit.due("RUN of " + day, x.run(0, 0), behind);
        Kit.due("DUE behind " + day, x.run(0, 1), due);
    }

    private static void ahead() {
        Edge.terms("TREASURY, PURSE of a BUYER behind n (0 .. 60) HOURS.", () -> {
            NearlyBought x = with("sr8y2i3;tp10;bm30", "y:0");
            Edge.touch(x, 0, 0);
            Kit.due("TREASURY behind -1", x.treasury(-1), -1);
            Kit.due("PURSE behind -1", x.purse(0, -1), -1);
            for (int n = 0; n <= 60; n++) {
                Kit.due("TREASURY behind " + n, x.treasury(n), n < 2 ? 0 : 10);
                Kit.due("PURSE behind " + n, x.purse(0, n), 30 + n / 2 * 3 - (n < 2 ? 0 : 10));
            }
            Kit.due("TREASURY behind 61", x.treasury(61), -1);
            Kit.due("PURSE behind 61", x.purse(0, 61), -1);
            // As HOURS that go by: he likes it by its WEIGHT, and HOLDS it as long as that tells.
            String city = "sr8y6i1;tp40w7;tp21w1s2;tp60w4;bm50d4n9;bm70d5k1";
            NearlyBought told = Kit.city(city);
            NearlyBought gone = Kit.city(city);
            gone.selling(0, 0);
            told.selling(2, 0);
            for (int n = 0; n <= 40; n++) {
                Kit.due("TREASURY behind " + n, told.treasury(n), gone.count(8));
                Kit.due("PURSE behind " + n, told.purse(0, n), gone.buyer(0, 0));
                Kit.due("PURSE behind " + n, told.purse(1, n), gone.buyer(1, 0));
                gone.hour();
            }
        });
        Edge.terms("WHOSE a THING is behind n (0 .. 60) HOURS (who HOLDS it, or to whom it is SOLD).", () -> {
            NearlyBought x = Kit.city("tp99w0;t;bd0;b");
            x.pick(0, 1);
            x.hand(0, 1);
            Kit.due("FREE now", x.whose(0, 0), -1);
            Kit.due("who HOLDS it now", x.whose(1, 0), 1);
            Kit.due("to whom it is SOLD", x.whose(1, 1), 1);
            Kit.due("still", x.whose(1, 60), 1);
            Kit.due("PICKED UP behind that", x.whose(0, 1), 1);
            Kit.due("behind -1", x.whose(1, -1), -1);
            Kit.due("behind 61", x.whose(1, 61), -1);
            String city = "sr8y6i1;tp40w7;tp21w1s2;tp60w4;bm50d4n9;bm70d5k1";
            NearlyBought told = Kit.city(city);
            NearlyBought gone = Kit.city(city);
            told.selling(0, 0);
            for (int n = 0; n <= 40; n++) {
                for (int t = 0; t < 3; t++) {
                    Kit.due("WHOSE behind " + n, told.whose(t, n), gone.thing(t, 3));
                }
                gone.hour();
            }
        });
        Edge.terms("RAISES for n (1 .. 60): the RATE (0 .. 8), were it set now, by which TREASURY behind n HOURS is most", () -> {
            // PICKED UP in the first HOUR, put BACK in the third, which is MICHAELMAS.
            NearlyBought x = Kit.city("sr1y3i0;tp40w0;bm50n9");
            Kit.due("behind 3", x.raises(3, 0), 8);
            Kit.due("behind 0", x.raises(0, 0), -1);
            Kit.due("behind 1", x.raises(1, 0), 0);
            Kit.due("behind 60", x.raises(60, 0) >= 0, true);
            Kit.due("behind 61", x.raises(61, 0), -1);
            Kit.due("RATE stays", x.count(7), 1);
            // Who owes above 6 times NERVE touches nothing more: a lower RATE raises more.
            NearlyBought y = Kit.city("sr8y9i0;tp40w0;tp40w0;tp40w0;bm99n5");
            Kit.due("two of 30, not one of 40", y.raises(9, 1), 60);
            Kit.due("by 6", y.raises(9, 0), 6);
        });
        Edge.terms("(of several the least); that TREASURY.", () -> {
            NearlyBought x = Kit.city("sr1y3i0;tp40w0;bm20n9");
            Kit.due("20 by 4 and above", x.raises(3, 0), 4);
            Kit.due("that TREASURY", x.raises(3, 1), 20);
            Kit.due("nothing by any", x.raises(2, 0), 0);
            Kit.due("nothing", x.raises(2, 1), 0);
        });
    }

    private static void selling() {
        Edge.terms("SELLING of a THING that is not SOLD: the WEIGHT (0 .. 9), were it so from now on,", () -> {
            for (int weight = 0; weight <= 9; weight++) {
                NearlyBought x = with("tp20w" + (9 - weight) + ";b", "y:w=" + weight + "?20;y:1");
                Kit.due("WEIGHT", x.selling(0, 0), weight);
                Kit.due("in how many", x.selling(0, 1), 2);
                Kit.due("it stays as it is", x.thing(0, 1), 9 - weight);
            }
            NearlyBought x = Kit.city("t;b");
            x.pick(0, 0);
            Kit.due("HELD", x.selling(0, 1), 1);
            x.buy(0);
            Kit.due("SOLD", x.selling(0, 1), -1);
        });
        Edge.terms("by which it is SOLD in the fewest HOURS, 40 at most", () -> {
            // INCOME of 30 in the HOURS 20 and 40: he has 50 as the 41st begins.
            NearlyBought x = with("sy20i30;tp50w3;bk2m0", "y:50");
            Kit.due("in 41: by none", x.selling(0, 0), -1);
            Kit.due("in 41: by none", x.selling(0, 1), -1);
            x.hour();
            Kit.due("in 40", x.selling(0, 1), 40);
            x.hour();
            Kit.due("in 39", x.selling(0, 1), 39);
            // Liked early by WEIGHT 7 alone, later by all.
            NearlyBought y = with("tp20;bk2", "y:w=7&h>3|h>9?20;y:1");
            Kit.due("fewest", y.selling(0, 0), 7);
            Kit.due("in", y.selling(0, 1), 5);
            // One HOUR sooner is fewer.
            NearlyBought later = with("tp20w9;bk2", "y:w=2&h>5|w=4&h>4|w=6&h>3|w=8&h>4?20;y:w=0&h>6?20;y:1");
            Kit.due("fewest", later.selling(0, 0), 6);
            Kit.due("in", later.selling(0, 1), 5);
            // By none, behind another one that is SOLD by some.
            NearlyBought two = Kit.city("tp27;tp99;b");
            Kit.due("the first by 7", two.selling(0, 0), 7);
            Kit.due("the second by none", two.selling(1, 0), -1);
            Kit.due("in how many", two.selling(1, 1), -1);
            two.raises(1, 1);
            Kit.due("behind RAISES, too", two.selling(1, 0) + two.selling(1, 1), -2);
        });
        Edge.terms("(of several the least); in how many (1 ..).", () -> {
            NearlyBought x = with("tp20w5;b", "y:w>3?20;y:1");
            Kit.due("by 4 and above", x.selling(0, 0), 4);
            Kit.due("in 2", x.selling(0, 1), 2);
            NearlyBought y = with("tp20w5;b", "y:20");
            Kit.due("by all", y.selling(0, 0), 0);
            y.pick(0, 0);
            Kit.due("in 1", y.selling(0, 1), 1);
        });
    }

    private static void seeking() {
        Edge.terms("SEEK of a BUYER who HOLDS none for n (1 .. 4): orders of 0 .. n FREE THINGS, unlike:", () -> {
            NearlyBought x = Kit.city("t;t;t;t;t;bk2;b");
            seek(x, 0, 0, -1, -1);
            seek(x, 0, 1, 5720, 10);
            seek(x, 0, 2, 9952, 101);
            seek(x, 0, 3, 13084, 1012);
            seek(x, 0, 4, 15402, 10123);
            seek(x, 0, 5, -1, -1);
            x.pick(1, 0);
            seek(x, 0, 4, 15402, 11234);
            x.buy(1);
            seek(x, 0, 4, 15402, 11234);
            x.pick(1, 1);
            seek(x, 1, 4, -1, -1);
            seek(x, 0, 4, 13084, 1234);
            NearlyBought y = Kit.city("t;bk2");
            seek(y, 0, 4, 5720, 10);
            NearlyBought z = with("t;bk2", "y:0");
            seek(z, 0, 4, 0, 1);
        });
        Edge.terms("of each in turn by a chance of 10 and 8 times WEIGHT hundredths he finds it good, has LIKING for it and ends;", () -> {
            for (int weight = 0; weight <= 9; weight++) {
                NearlyBought x = with("tw" + weight + ";bk2", "y:50");
                seek(x, 0, 1, (10 + 8 * weight) * 500, 10);
            }
        });
        Edge.terms("else he has less by what would be due, did he put it BACK now (by RATE and KIND, the CLERK looks AWAY or not),"
            + " and goes on with the next;", () -> {
                NearlyBought x = with("sr8;tp40w5;b;bk1;bk2", "y:90");
                int[] whole = {25000, 35000, 45000};
                int[] half = {35000, 40000, 45000};
                for (int b = 0; b < 3; b++) {
                    seek(x, b, 1, whole[b], 10);
                }
                x.clerk(0);
                for (int b = 0; b < 3; b++) {
                    seek(x, b, 1, whole[b], 10);
                }
                x.rate(4);
                for (int b = 0; b < 3; b++) {
                    seek(x, b, 1, half[b], 10);
                }
                x.clerk(0);
                x.rate(0);
                for (int b = 0; b < 3; b++) {
                    seek(x, b, 1, 45000, 10);
                }
            });
        Edge.terms("WORTH of an order in thousandths, from its end: nothing left: 0; chance times 1,000 times LIKING and"
            + " 100 less chance times (what is left less 1,000 times what is due), together by 100, cut: the most;", () -> {
                // By hand: 0 alone -7,000, 1 alone 29,200, both less than that.
                NearlyBought x = with("sr8;tp10w0;tp20w9;b", "y:p*2");
                seek(x, 0, 2, 29200, 11);
                // 8,200 of the last, 82 times 90,000 and 18 times that, by 100.
                NearlyBought y = with("tp10w9;tp90w9;bk2", "y:p");
                seek(y, 0, 2, 75276, 110);
                // 26 times 1,000 is 260; then 260 and 74 times 260 by 100: 452.4.
                NearlyBought z = with("t;t;t;bk2", "y:1");
                seek(z, 0, 1, 260, 10);
                seek(z, 0, 2, 452, 101);
                seek(z, 0, 3, 594, 1012);
                // Each alone is worth less than nothing.
                NearlyBought w = with("sr8;tp99w0;tp99w0;b", "y:9");
                seek(w, 0, 4, 0, 1);
                NearlyBought most = with("tp99w9;tp99w9;tp99w9;tp99w9;bk2", "y:99");
                seek(most, 0, 1, 81180, 10);
                seek(most, 0, 4, 98895, 10123);
            });
        Edge.terms("the order by which it is, a row of digits and a 1 ahead of these (of several the least number; no THING: 1).", () -> {
            NearlyBought x = with("t;t;t;t;t;t;t;tp30;bk2", "y:p=30?5");
            seek(x, 0, 1, 1300, 17);
            seek(x, 0, 4, 1300, 17);
            // Worth exactly nothing: 50 hundredths of 10, less 50 hundredths of 10.
            NearlyBought y = with("sr8;tp10w5;tp10w6;b", "y:w=5?10;y:20");
            seek(y, 0, 1, 7400, 11);
            seek(y, 0, 2, 7400, 11);
            NearlyBought z = with("sr8;tp10w5;b", "y:10");
            seek(z, 0, 1, 0, 1);
            NearlyBought w = Kit.city("t;bk2;b");
            seek(w, 0, 4, 5720, 10);
            w.pick(1, 0);
            seek(w, 0, 4, 0, 1);
        });
    }

    /** With DESIRE 1 .. 4 he puts it BACK in the third HOUR and owes 20; with 5 .. 9 he BUYS it, with 0 he leaves it. */
    private static NearlyBought owing() {
        return Kit.city("sr8y30;tp20w0;bd5n9;bd0");
    }

    private static void desires(NearlyBought x, int buyer, int... want) {
        Kit.due("how many", x.desires(buyer, -1), want.length);
        for (int i = 0; i < want.length; i++) {
            Kit.due("DESIRE " + i, x.desires(buyer, i), want[i]);
        }
        Kit.due("none behind these", x.desires(buyer, want.length), -1);
    }

    private static void seen() {
        Edge.terms("SEEN (10 at most):", () -> {
            NearlyBought x = owing();
            Kit.due("none at first", x.count(11), 0);
            for (int i = 1; i <= 10; i++) {
                Kit.due("SEEN", x.seen(i, 0, true), i);
            }
            Kit.due("an eleventh", x.seen(1, 0, true), -1);
            Kit.due("SEEN", x.count(11), 10);
        });
        Edge.terms("as told (the CLERKS do not look AWAY),", () -> {
            NearlyBought x = owing();
            x.seen(3, 20, true);
            desires(x, 0, 1, 2, 3, 4);
            x.clerk(0);
            desires(x, 0, 1, 2, 3, 4);
            x.rate(0);
            x.gift(0, 50);
            Edge.hours(x, 5);
            x.pick(1, 0);
            desires(x, 0, 1, 2, 3, 4);
        });
        Edge.terms("behind n (1 .. 60) HOURS TREASURY and all that is DUE were together v (0 .. 999) or more, or less.", () -> {
            int[] hours = {-1, 0, 1, 60, 61};
            for (int n : hours) {
                Kit.due("n " + n, owing().seen(n, 0, true), n >= 1 && n <= 60 ? 1 : -1);
            }
            int[] values = {-1, 0, 999, 1000};
            for (int v : values) {
                Kit.due("v " + v, owing().seen(1, v, false), v >= 0 && v <= 999 ? 1 : -1);
            }
            for (int v = 19; v <= 21; v++) {
                NearlyBought more = owing();
                more.seen(3, v, true);
                Kit.due(v + " or more", more.desires(0, -1), v <= 20 ? 4 : 0);
                NearlyBought less = owing();
                less.seen(3, v, false);
                Kit.due("less than " + v, less.desires(0, -1), v <= 20 ? 6 : 10);
            }
            NearlyBought never = owing();
            never.seen(60, 0, false);
            desires(never, 0);
            NearlyBought early = owing();
            early.seen(2, 1, true);
            desires(early, 0);
            // Paid into the TREASURY at 30: 20 still, and he owes 20 anew by then.
            NearlyBought late = owing();
            late.seen(30, 20, true);
            late.seen(31, 21, false);
            desires(late, 0, 1, 2, 3, 4);
        });
        Edge.terms("DESIRES of a BUYER: how much DESIRE (0 .. 9) he may have had as told so that all SEEN is so (all else as told):"
            + " how many, the i-th (rising).", () -> {
                NearlyBought x = owing();
                desires(x, 0, 0, 1, 2, 3, 4, 5, 6, 7, 8, 9);
                x.seen(3, 1, false);
                desires(x, 0, 0, 5, 6, 7, 8, 9);
                // The second one takes nothing as long as the first one has it: all else is as told.
                desires(x, 1, 0, 1, 2, 3, 4, 5, 6, 7, 8, 9);
                x.seen(1, 0, true);
                desires(x, 0, 0, 5, 6, 7, 8, 9);
                x.seen(3, 20, true);
                desires(x, 0);
                NearlyBought last = with("sr8y30;tp20w0;bd0n9", "y:d=9?1");
                last.seen(3, 20, true);
                desires(last, 0, 9);
                NearlyBought first = with("sr8y30;tp20w0;bd9n9", "y:d=0?1");
                first.seen(3, 20, true);
                desires(first, 0, 0);
            });
        Edge.terms("ASK of a BUYER: the n (1 .. 60) by which the most of these that agree in that behind n HOURS are fewest"
            + " (of several the least).", () -> {
                NearlyBought x = owing();
                Kit.due("four and six from the third on", x.ask(0), 3);
                x.seen(3, 1, true);
                Kit.due("all agree always: the least", x.ask(0), 1);
                x.seen(3, 1, false);
                Kit.due("nothing fits", x.ask(0), -1);
                // PICKED UP in the HOUR 57 alone, put BACK in 59 and paid as much as he has at 60.
                NearlyBought last = with("sy20i1r8;tp99w0;bm0n9", "y:h=9&m=2?d");
                Kit.due("the last", last.ask(0), 60);
                NearlyBought none = with("t;b", "y:0");
                Kit.due("nothing ever", none.ask(0), 1);
                // 0 and the others part at 3 (nine agree), 1 .. 4 and 5 .. 9 at 5 (five agree).
                NearlyBought parting = with("sr8y30;tp20w0;tp30w0;bn9", "y:p=20&d>0?1;y:p=30&d>4?1");
                Kit.due("the most, not those of 0", parting.ask(0), 5);
                parting.seen(3, 20, true);
                Kit.due("without 0", parting.ask(0), 5);
                parting.seen(5, 50, true);
                Kit.due("5 .. 9 agree always", parting.ask(0), 1);
            });
    }

    private static void games() {
        Edge.terms("GAME of a BUYER and a THING that is not SOLD: x (0 .. 3) how many tenths the seller takes off PRICE (cut),", () -> {
            int[] prices = {1, 3, 4, 5, 9, 10, 11, 19, 99};
            for (int price : prices) {
                NearlyBought x = Kit.city("tp" + price + ";b");
                for (int off = 0; off <= 3; off++) {
                    Kit.due(off + " tenths off " + price, x.game(0, 0, off, 1, 0), price - price * off / 10);
                }
                Kit.due("x -1", x.game(0, 0, -1, 1, 0), NearlyBought.HIDDEN);
                Kit.due("x 4", x.game(0, 0, 4, 1, 0), NearlyBought.HIDDEN);
            }
            NearlyBought x = Kit.city("t;b;b");
            x.pick(1, 0);
            Kit.due("HELD", x.game(0, 0, 0, 1, 0), 20);
            x.buy(1);
            Kit.due("SOLD", x.game(0, 0, 0, 1, 0), NearlyBought.HIDDEN);
        });
        Edge.terms("y (0 leaves it, 1 takes it, 2 touches it alone): the seller has: y 1: PRICE less that; y 2: 1; else 0;", () -> {
            NearlyBought several = with("sr4;tp50w1s1;tp30w9s3;bk1;b", "y:p+w");
            int[][] sellers = {{0, 50, 1}, {0, 30, 1}};
            int[][] buyers = {{0, 1, 12 - 25}, {0, 9, 9 - 15}};
            for (int i = 0; i < 4; i++) {
                for (int y = 0; y < 3; y++) {
                    Kit.due("the seller of " + i % 2, several.game(1, i % 2, 0, y, 0), sellers[i % 2][y]);
                    Kit.due("the BUYER of " + i % 2, several.game(1, i % 2, 0, y, 1), buyers[i % 2][y]);
                }
            }
            NearlyBought x = Kit.city("tp50;b");
            int[] taken = {50, 45, 40, 35};
            for (int off = 0; off <= 3; off++) {
                Kit.due("y -1", x.game(0, 0, off, -1, 0), NearlyBought.HIDDEN);
                Kit.due("y 0", x.game(0, 0, off, 0, 0), 0);
                Kit.due("y 1", x.game(0, 0, off, 1, 0), taken[off]);
                Kit.due("y 2", x.game(0, 0, off, 2, 0), 1);
                Kit.due("y 3", x.game(0, 0, off, 3, 0), NearlyBought.HIDDEN);
            }
        });
        Edge.terms("the BUYER has: y 1: LIKING, less what the seller has; y 2: LIKING by 4, cut, less what would be due,"
            + " did he put it BACK now (the CLERK looks AWAY or not); else 0.", () -> {
                int[] likings = {0, 3, 4, 7, 50, 99};
                for (int liking : likings) {
                    NearlyBought x = with("sr8;tp50;b;bk1;bk2", "y:" + liking);
                    int[] due = {50, 25, 0};
                    for (int twice = 0; twice < 2; twice++) {
                        for (int b = 0; b < 3; b++) {
                            Kit.due("y 0", x.game(b, 0, 3, 0, 1), 0);
                            Kit.due("y 1", x.game(b, 0, 3, 1, 1), liking - 35);
                            Kit.due("y 2", x.game(b, 0, 3, 2, 1), liking / 4 - due[b]);
                        }
                        x.clerk(0);
                    }
                }
            });
        Edge.terms("RESTS: 10 times x and y by which neither has more by another of its own: how many, the i-th (rising).", () -> {
            // LIKING above PRICE by more than a touch is worth: taking, nothing off.
            rests(with("tp20;b", "y:22"), 0, 1);
            // LIKING is PRICE: to leave it is as good; then any x.
            rests(with("sr8;tp20;b", "y:20"), 0, 0, 1);
            rests(with("sr8;tp20;b", "y:19"), 0, 0);
            rests(with("sr8;tp20;b", "y:10"), 0, 0, 10, 20, 30);
            rests(with("tp20;bk2", "y:10"), 0, 2, 12, 22, 32);
            rests(with("tp20;bk2", "y:0"), 0, 0, 2, 10, 12, 20, 22, 30, 32);
            rests(with("sr2;tp20;b", "y:20"), 0, 0, 1, 2);
            NearlyBought several = with("tp20;tp30;b", "y:p=30?29;y:22");
            Kit.due("of the first", several.rests(0, 0, 0), 1);
            // 29 by 4 less 7 due is nothing, as is leaving it; with something off he would take it, but then nothing is.
            Kit.due("of the second", several.rests(0, 1, -1), 2);
            Kit.due("leaving it", several.rests(0, 1, 0), 0);
            Kit.due("touching it", several.rests(0, 1, 1), 2);
            NearlyBought x = Kit.city("t;b");
            x.pick(0, 0);
            x.buy(0);
            Kit.due("SOLD", x.rests(0, 0, -1), -1);
        });
    }

    private static void rests(NearlyBought x, int buyer, int... want) {
        for (int twice = 0; twice < 2; twice++) {
            Kit.due("how many", x.rests(buyer, 0, -1), want.length);
            for (int i = 0; i < want.length; i++) {
                Kit.due("REST " + i, x.rests(buyer, 0, i), want[i]);
            }
            Kit.due("none behind these", x.rests(buyer, 0, want.length), -1);
            x.clerk(0);
        }
    }

    private static void odds() {
        Edge.terms("ODDS for n (0 .. 6) HOURS, v (0 .. 999) and a chance (0 .. 100):", () -> {
            NearlyBought x = Kit.city("t;b");
            for (int n = -1; n <= 7; n++) {
                Kit.due("n " + n, x.odds(n, 0, 50), n >= 0 && n <= 6 ? 1000000000 : -1);
            }
            int[] values = {-1, 0, 1, 999, 1000};
            for (int v : values) {
                Kit.due("v " + v, x.odds(0, v, 50), v == 0 ? 1000000000 : v >= 0 && v <= 999 ? 0 : -1);
            }
            int[] chances = {-1, 0, 1, 99, 100, 101};
            for (int chance : chances) {
                Kit.due("chance " + chance, x.odds(6, 0, chance), chance >= 0 && chance <= 100 ? 1000000000 : -1);
            }
        });
        Edge.terms("each HOUR by chance all CLERKS look AWAY (else as they do now), each HOUR by itself:", () -> {
            // It is put BACK in the second HOUR from now; a BILL of 99 unless the CLERK looks AWAY then.
            NearlyBought x = Kit.city("sr8y30;tp99w0s3;bn9");
            x.pick(0, 0);
            Kit.due("never AWAY", x.odds(2, 99, 0), 1000000000);
            Kit.due("by 30", x.odds(2, 99, 30), 700000000);
            Kit.due("always AWAY", x.odds(2, 99, 100), 0);
            x.clerk(0);
            Kit.due("another CLERK", x.odds(2, 99, 30), 700000000);
            x.clerk(3);
            Kit.due("as they do now: AWAY", x.odds(2, 99, 30), 0);
            x.clerk(3);
            // Without a BILL he PICKS it UP at once and puts it BACK again in the fourth HOUR and in the sixth.
            Kit.due("each by itself", x.odds(4, 99, 30), 910000000);
            Kit.due("each by itself", x.odds(6, 99, 30), 973000000);
        });
        Edge.terms("of 10 to the 9 parts those by which TREASURY and all that is DUE are together v or more behind them", () -> {
            NearlyBought x = Kit.city("sr8y2i0;tp99w0;bm20n9");
            x.pick(0, 0);
            x.putBack(0);
            Kit.due("DUE 99", x.odds(0, 99, 50), 1000000000);
            Kit.due("not 100", x.odds(0, 100, 50), 0);
            Kit.due("DUE 99 behind 1", x.odds(1, 99, 50), 1000000000);
            Kit.due("paid as much as he has", x.odds(2, 99, 50), 0);
            Kit.due("TREASURY 20", x.odds(2, 20, 50), 1000000000);
            Kit.due("not 21", x.odds(2, 21, 50), 0);
        });
        Edge.terms("(of each part chance 100ths, cut, AWAY).", () -> {
            // By 33: of each part 33 hundredths, cut, are AWAY; six HOURS, a BILL in the second, fourth or sixth.
            NearlyBought x = Kit.city("sr8y30;tp99w0;bn9");
            x.pick(0, 0);
            int[] chances = {1, 33, 67, 99};
            for (int chance : chances) {
                long none = 0;
                for (int path = 0; path < 64; path++) {
                    long parts = 1000000000L;
                    for (int i = 0; i < 6; i++) {
                        long away = parts * chance / 100;
                        parts = (path >> i & 1) == 1 ? away : parts - away;
                    }
                    none += (path & 42) == 42 ? parts : 0;
                }
                Kit.due("by " + chance, x.odds(6, 99, chance), 1000000000L - none);
            }
        });
    }

    private static void wholes() {
        Edge.terms("SHARES of c (0 .. 999) by DUE: for a BUYER c times his by that of all, cut (none: 0).", () -> {
            NearlyBought x = Kit.city("sr8;tp1;tp2;b;b;b");
            Kit.due("none", x.shares(0, 999), 0);
            Edge.touch(x, 0, 0);
            Edge.touch(x, 1, 1);
            int[] cs = {0, 1, 2, 3, 4, 5, 998, 999};
            for (int c : cs) {
                Kit.due("a third of " + c, x.shares(0, c), c / 3);
                Kit.due("two thirds of " + c, x.shares(1, c), 2 * c / 3);
                Kit.due("nothing of " + c, x.shares(2, c), 0);
            }
            Kit.due("c -1", x.shares(0, -1), -1);
            Kit.due("c 1000", x.shares(0, 1000), -1);
            NearlyBought y = Kit.city("sr8;tp99;b");
            for (int i = 0; i < 24; i++) {
                Edge.touch(y, 0, 0);
            }
            Kit.due("all of 999", y.shares(0, 999), 999);
        });
        Edge.terms("RICHEST: the BUYER with most in his PURSE; MOST DUE; BOLDEST: with most NERVE; KEENEST: with most DESIRE;"
            + " DEAREST: the THING with most PRICE; HEAVIEST (of several the lowest, all).", () -> {
                NearlyBought x = Kit.city("sr8;tp9w3;tp20w1;tp20w4;tp5w4;bm1n2d3;bm5n3d9;bm5n3d9;bm4n1d1");
                int[] lowest = {1, 0, 1, 1, 1, 2};
                for (int what = 0; what < 6; what++) {
                    Kit.due("all(" + what + ")", x.all(what), lowest[what]);
                }
                Edge.touch(x, 3, 1);
                Edge.touch(x, 2, 2);
                Kit.due("MOST DUE", x.all(1), 2);
                Edge.touch(x, 3, 3);
                Kit.due("MOST DUE", x.all(1), 3);
                x.gift(3, 1);
                Kit.due("RICHEST", x.all(0), 1);
                x.gift(3, 1);
                Kit.due("RICHEST", x.all(0), 3);
                NearlyBought alike = Kit.city("t;t;t;b;b;b");
                for (int what = 0; what < 6; what++) {
                    Kit.due("all alike", alike.all(what), 0);
                }
                NearlyBought least = Kit.city("tp1w0;tp1w0;bm0n0d0;bm0n0d0");
                for (int what = 0; what < 6; what++) {
                    Kit.due("all the least", least.all(what), 0);
                }
                NearlyBought last = Kit.city("t;tp21w3;b;bm31n5d6");
                int[] second = {1, 0, 1, 1, 1, 1};
                for (int what = 0; what < 6; what++) {
                    Kit.due("the last", last.all(what), second[what]);
                }
                last.pick(0, 1);
                last.buy(0);
                Kit.due("SOLD, too", last.all(4), 1);
                NearlyBought liked = with("tp10w3;tp9w4;tp30w0;b", "y:p");
                Kit.due("HEAVIEST, however it is liked", liked.all(5), 1);
                Kit.due("WANTED", liked.all(12), 2);
            });
        Edge.terms("HOLDERS: BUYERS (bits) who HOLD one. FREE, SOLD: THINGS (bits).", () -> {
            NearlyBought x = Kit.city("t;t;t;t;t;t;t;t;b;b;b;b;b;b");
            Kit.due("no HOLDERS", x.all(6), 0);
            Kit.due("all FREE", x.all(7), 255);
            Kit.due("none SOLD", x.all(8), 0);
            for (int b = 0; b < 6; b++) {
                x.pick(b, 7 - b);
            }
            Kit.due("all HOLD one", x.all(6), 63);
            Kit.due("two are FREE", x.all(7), 3);
            Kit.due("none SOLD", x.all(8), 0);
            for (int b = 0; b < 6; b++) {
                x.buy(b);
                x.gift(b, 50);
            }
            x.pick(0, 0);
            x.pick(5, 1);
            Kit.due("the first and the last", x.all(6), 33);
            Kit.due("none FREE", x.all(7), 0);
            x.buy(0);
            x.buy(5);
            Kit.due("all SOLD", x.all(8), 255);
        });
        Edge.terms("AFRAID: BUYERS (bits) whose DUE is above 6 times NERVE.", () -> {
            for (int nerve = 0; nerve <= 9; nerve++) {
                NearlyBought x = Kit.city("sr8;tp1;tp" + Math.max(1, 6 * nerve) + ";bn9;bn" + nerve);
                if (nerve > 0) {
                    Edge.touch(x, 1, 1);
                }
                Kit.due("DUE is 6 times " + nerve, x.all(9), 0);
                Edge.touch(x, 1, 0);
                Kit.due("one above", x.all(9), 2);
            }
            NearlyBought all = Kit.city("sr8;tp1;bn0;bn0;bn0;bn0;bn0;bn0");
            for (int b = 0; b < 6; b++) {
                Edge.touch(all, b, 0);
                Kit.due("AFRAID up to " + b, all.all(9), (2 << b) - 1);
            }
        });
        Edge.terms("DUE of all. AWAY: SHOPS (bits) whose CLERK looks AWAY.", () -> {
            NearlyBought x = Kit.city("sr8;tp5;tp7;b;b");
            Kit.due("no DUE", x.all(10), 0);
            Edge.touch(x, 0, 0);
            Edge.touch(x, 1, 1);
            Kit.due("DUE", x.all(10), 12);
            Kit.due("none AWAY", x.all(11), 0);
            for (int shop = 3; shop >= 0; shop--) {
                x.clerk(shop);
                Kit.due("AWAY", x.all(11), 15 - (1 << shop) + 1);
            }
        });
        Edge.terms("WANTED: the THING for which LIKING of all BUYERS, added up, is most (of several the lowest).", () -> {
            Kit.due("all alike", Kit.city("t;t;t;b").all(12), 0);
            Kit.due("the heaviest", Kit.city("tw1;tw3;tw3;b").all(12), 1);
            Kit.due("none is liked", with("t;t;b", "y:0").all(12), 0);
            // By DESIRES 1 and 9: 10 and 10, or 1 and 20.
            NearlyBought x = with("tp1;tp2;bd1;bd9", "y:p=2?10;y:d=9?20;y:1");
            Kit.due("21 and 20", x.all(12), 0);
            NearlyBought y = with("tp1;tp2;bd1;bd9", "y:p=2?11;y:d=9?20;y:1");
            Kit.due("21 and 22", y.all(12), 1);
            y.pick(0, 1);
            y.buy(0);
            Kit.due("SOLD, too", y.all(12), 1);
        });
    }

    static void run() {
        apart();
        ahead();
        seeking();
        selling();
        seen();
        games();
        odds();
        wholes();
    }
}
