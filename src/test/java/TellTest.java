/** Promises 6 to 9 and 11: thing, buyer, liking, bill, tempted. */
public final class TellTest {
    private static void law(NearlyBought x, String law, int want) {
        Kit.text(x, 0, "tp40w3s2;bm70d6;tp8w0");
        Kit.due(law + " as a LAW", Kit.text(x, 1, law) >= 0, true);
        x.law(x.count(2) - 1);
        Kit.due("liking by " + law, x.liking(0, 0), want);
    }

    private static void likings() {
        String[] laws = {"y:p", "y:w", "y:d", "y:m", "y:s", "y:h", "y:100", "y:1-2", "y:2+3*4", "y:10-3-2",
            "y:[2+3]*4", "y:7/2", "y:[1-8]/2+50", "y:5/0+3", "y:9999*9999/9999/2", "y:0-9999*9999+9999/1+50",
            "y:9999*9999*[0-1]/9999+120", "y:p>40?1;y:p=40?2;y:3", "y:p<40?1;y:p>99?2", "y:!p<40?9",
            "y:p=40&w=3|d=9?5;y:6", "y:d=9|p=40&w=4?5;y:6", "y:(d=6|p=1)&w=4?5;y:6", "y:!(d=6&p=1)&w=3?5;y:6",
            "y:!!d=6?4", "y:12-2*[d-1]", "y:p/w*w", "y:2=2?99;y:98", "y : p > 1 ? 2 + 2",
            "y:9999*9999-9999*100-50", "y:0-9999*9999+9999*100+150"};
        int[] want = {40, 3, 6, 70, 2, 0, 99, 0, 14, 5,
            20, 3, 47, 3, 50, 0,
            20, 2, 0, 9,
            5, 6, 6, 5,
            4, 2, 39, 99, 4, 50, 50};
        for (int i = 0; i < laws.length; i++) {
            law(new NearlyBought(), laws[i], want[i]);
        }
        NearlyBought x = Kit.city("t;b");
        Kit.due("4 times DESIRE and WEIGHT", x.liking(0, 0), 22);
        Kit.due("liking(1, 0)", x.liking(1, 0), -1);
        Kit.due("liking(-1, 0)", x.liking(-1, 0), -1);
        Kit.due("liking(0, 1)", x.liking(0, 1), -1);
        Kit.due("liking(0, -1)", x.liking(0, -1), -1);
        Kit.law(x, "y:h");
        x.years(23, 1);
        Kit.due("the HOUR", x.liking(0, 0), 23);
        x.years(2, 1);
        Kit.due("modulo 24", x.liking(0, 0), 1);
        Kit.law(x, "y:m");
        int purse = x.buyer(0, 0);
        x.gift(0, 3);
        Kit.due("PURSE now", x.liking(0, 0), Math.min(99, purse + 3));
    }

    private static void bills() {
        NearlyBought x = Kit.city("sr4;tp20;tp30;tp7;bn9;bk1;bk2");
        int[] order = {1, 0, 1, 2};
        for (int t : order) {
            x.pick(0, t);
            x.putBack(0);
            x.pick(1, t);
            x.putBack(1);
            x.pick(2, t);
            Kit.due("a thief's", x.putBack(2), 0);
        }
        int[] due = {15, 10, 15, 3};
        for (int i = 0; i < 4; i++) {
            Kit.due("bill THING", x.bill(0, i, 0), order[i]);
            Kit.due("bill HOUR", x.bill(0, i, 1), 0);
            Kit.due("bill due", x.bill(0, i, 2), due[i]);
            Kit.due("with a stick", x.bill(1, i, 2), due[i] / 2);
        }
        Kit.due("how many", x.buyer(0, 6), 4);
        Kit.due("DUE", x.buyer(0, 5), 43);
        Kit.due("DUE with a stick", x.buyer(1, 5), 7 + 5 + 7 + 1);
        Kit.due("a thief's BILLS", x.buyer(2, 6), 0);
        Kit.due("no fifth", x.bill(0, 4, 0), -1);
        Kit.due("i -1", x.bill(0, -1, 0), -1);
        Kit.due("what 3", x.bill(0, 0, 3), -1);
        Kit.due("what -1", x.bill(0, 0, -1), -1);
        Kit.due("no such BUYER", x.bill(3, 0, 0), -1);
        Kit.due("no such BUYER", x.bill(-1, 0, 0), -1);
        x.clerk(3);
        x.hour();
        x.hour();
        x.putBack(0);
        x.pick(0, 2);
        x.putBack(0);
        Kit.due("the HOUR it was written", x.bill(0, x.buyer(0, 6) - 1, 1), 2);
    }

    private static void edges() {
        NearlyBought x = Kit.city("t;t;b");
        Kit.due("thing(2, 0)", x.thing(2, 0), NearlyBought.HIDDEN);
        Kit.due("thing(-1, 0)", x.thing(-1, 0), NearlyBought.HIDDEN);
        Kit.due("thing(0, 6)", x.thing(0, 6), NearlyBought.HIDDEN);
        Kit.due("thing(0, -1)", x.thing(0, -1), NearlyBought.HIDDEN);
        Kit.due("buyer(1, 0)", Kit.throwsNoSuch(x, 1, 0), true);
        Kit.due("buyer(-1, 0)", Kit.throwsNoSuch(x, -1, 0), true);
        Kit.due("buyer(0, 7)", Kit.throwsNoSuch(x, 0, 7), true);
        Kit.due("buyer(0, -1)", Kit.throwsNoSuch(x, 0, -1), true);
        Kit.due("buyer(0, 6)", Kit.throwsNoSuch(x, 0, 6), false);
        Kit.due("tempted(2): it is so", x.tempted(2), false);
        Kit.due("tempted(10)", x.tempted(10), false);
        Kit.due("tempted(-1)", x.tempted(-1), false);
        Kit.due("tempted(0)", x.tempted(0), true);
        Kit.due("tempted(0) again", x.tempted(0), false);
        Kit.due("tempted(9)", x.tempted(9), true);
        Kit.due("count(10)", x.count(10), 9);
    }

    public static void main(String[] args) {
        likings();
        bills();
        edges();
        Kit.end();
    }
}
