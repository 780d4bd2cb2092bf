/** Promise 5: text; what a CITY leaves of the one ahead. Promise 10: law. */
public final class TextTest {
    private static void kept() {
        NearlyBought x = Kit.city("s r5;t;t;b");
        Kit.law(x, "y:7");
        Kit.day(x, "h;p00");
        x.tempted(9);
        x.pick(9, 9);
        x.pick(0, 1);
        x.putBack(0);
        x.clerk(2);
        x.hour();
        x.image();
        x.seen(1, 1, true);
        Kit.due("RATE as told", x.count(7), 5);
        Kit.due("a new CITY", Kit.text(x, 0, "t;t;t;b;b"), 3);
        int[] counts = {3, 2, 1, 1, 0, 0, 0, 2, 0, 0, 9, 0, 0, 0};
        for (int what = 0; what < counts.length; what++) {
            Kit.due("count(" + what + ")", x.count(what), counts[what]);
        }
        Kit.due("STATUS stays", x.status(0), 1);
        Kit.due("the LAW holds on", x.liking(1, 2), 7);
        Kit.due("no IMAGE of this CITY", x.back(), -1);
        Kit.due("nothing to undo", x.undo(), -1);
        Kit.due("AWAY", x.all(11), 0);
        Kit.due("HOLDERS", x.all(6), 0);
        Kit.due("FREE", x.all(7), 7);
    }

    private static void refused() {
        NearlyBought x = Kit.city("t;b");
        Kit.feed(x, "t;q");
        Kit.due("a FAULT", x.text(0), -1);
        Kit.due("the TAPE stays", x.count(4), 3);
        Kit.due("the CITY stays", x.count(0), 1);
        Kit.due("no such sort", x.text(3), -1);
        Kit.due("no such sort", x.text(-1), -1);
        for (int i = 0; i < 4; i++) {
            Kit.due("a LAW", Kit.text(x, 1, "y:" + (10 + i)), i);
            Kit.due("a DAY", Kit.text(x, 2, "h;b" + i), i);
        }
        Kit.due("a fifth LAW", Kit.text(x, 1, "y:50"), -1);
        Kit.due("the TAPE stays", x.count(4), 4);
        Kit.due("it has no FAULT", x.fault(1), -1);
        Kit.due("a fifth DAY", Kit.text(x, 2, "h"), -1);
        Kit.due("LAWS", x.count(2), 4);
        Kit.due("DAYS", x.count(3), 4);
        Kit.due("none holds", x.count(5), -1);
        for (int i = 3; i >= 0; i--) {
            Kit.due("law", x.law(i), true);
            Kit.due("which holds", x.count(5), i);
            Kit.due("liking", x.liking(0, 0), 10 + i);
            Kit.due("the DAY", x.step(i, 1, 1), i);
        }
        Kit.due("law(4)", x.law(4), false);
        Kit.due("law(-2)", x.law(-2), false);
        Kit.due("it holds on", x.count(5), 0);
        Kit.due("law(NONE)", x.law(-1), true);
        Kit.due("without a LAW", x.liking(0, 0), 22);
        Kit.due("law(NONE) again", x.law(-1), true);
    }

    private static void usual() {
        NearlyBought x = Kit.city("t;b");
        int[] thing = {20, 2, 0, -1, 0, 0};
        for (int what = 0; what < 6; what++) {
            Kit.due("thing(0, " + what + ")", x.thing(0, what), thing[what]);
        }
        int[] buyer = {30, 5, 4, 0, -1, 0, 0};
        for (int what = 0; what < 7; what++) {
            Kit.due("buyer(0, " + what + ")", x.buyer(0, what), buyer[what]);
        }
        Kit.due("RATE", x.count(7), 2);
        x = Kit.city("bk1n9d0m99;ts3w9p1;b;sr0");
        int[] told = {1, 9, 3};
        for (int what = 0; what < 3; what++) {
            Kit.due("thing(0, " + what + ")", x.thing(0, what), told[what]);
        }
        int[] toldBuyer = {99, 0, 9, 1};
        for (int what = 0; what < 4; what++) {
            Kit.due("buyer(0, " + what + ")", x.buyer(0, what), toldBuyer[what]);
            Kit.due("buyer(1, " + what + ")", x.buyer(1, what), buyer[what]);
        }
        Kit.due("RATE 0", x.count(7), 0);
    }

    public static void main(String[] args) {
        kept();
        refused();
        usual();
        Kit.end();
    }
}
