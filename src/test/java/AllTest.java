/** Promises 39, 40 and 43: shares, all, count. */
public final class AllTest {
    private static void shares() {
        NearlyBought x = Kit.city("sr8;tp10;tp15;b;b;b");
        Kit.due("none", x.shares(0, 999), 0);
        x.pick(0, 0);
        x.putBack(0);
        x.pick(1, 1);
        x.putBack(1);
        Kit.due("shares(0, 100)", x.shares(0, 100), 40);
        Kit.due("shares(1, 100)", x.shares(1, 100), 60);
        Kit.due("shares(2, 100)", x.shares(2, 100), 0);
        Kit.due("shares(0, 999): cut", x.shares(0, 999), 399);
        Kit.due("shares(0, 0)", x.shares(0, 0), 0);
        Kit.due("shares(0, 1000)", x.shares(0, 1000), -1);
        Kit.due("shares(0, -1)", x.shares(0, -1), -1);
        Kit.due("shares(3, 1)", x.shares(3, 1), -1);
        Kit.due("shares(-1, 1)", x.shares(-1, 1), -1);
    }

    private static void wholes() {
        NearlyBought x = Kit.city("sr8;tp10w3;tp50w1s2;tp50w9s3;tp7w9;bm5n1d2;bm60n1d2;bm60n9d8;bn9d8");
        int[] want = {1, 0, 2, 2, 1, 2, 0, 15, 0, 0, 0, 0, 2};
        for (int what = 0; what < want.length; what++) {
            Kit.due("all(" + what + ")", x.all(what), want[what]);
        }
        Kit.due("all(13)", x.all(13), NearlyBought.HIDDEN);
        Kit.due("all(-1)", x.all(-1), NearlyBought.HIDDEN);
        x.pick(1, 0);
        x.putBack(1);
        x.pick(3, 3);
        x.putBack(3);
        x.pick(2, 1);
        x.buy(2);
        x.pick(0, 2);
        x.clerk(1);
        x.clerk(3);
        Kit.due("RICHEST", x.all(0), 1);
        Kit.due("MOST DUE", x.all(1), 1);
        Kit.due("DEAREST: SOLD, too", x.all(4), 1);
        Kit.due("HOLDERS", x.all(6), 1);
        Kit.due("FREE", x.all(7), 9);
        Kit.due("SOLD", x.all(8), 2);
        Kit.due("AFRAID", x.all(9), 2);
        Kit.due("DUE", x.all(10), 17);
        Kit.due("AWAY", x.all(11), 10);
        Kit.law(x, "y:p-m");
        // By PURSES 5, 60, 10, 30: 5 + 0 + 0 + 0, then 45 + 0 + 40 + 20 twice, then 2.
        Kit.due("WANTED", x.all(12), 1);
        Kit.law(x, "y:5");
        Kit.due("WANTED: the lowest", x.all(12), 0);
        x.gift(0, 50);
        x.gift(0, 6);
        Kit.due("RICHEST", x.all(0), 0);
    }

    private static void counts() {
        NearlyBought x = Kit.city("sr8y3;tp99w0;tp99w0;bm0;bd0m50");
        Kit.law(x, "y:s");
        Kit.day(x, "h");
        Kit.day(x, "h");
        x.seen(1, 1, true);
        x.tempted(3);
        x.pick(1, 0);
        x.putBack(1);
        x.hour();
        x.rate(7);
        Kit.feed(x, "abc");
        int[] want = {2, 2, 1, 2, 3, 0, 1, 7, 0, 1, 3, 1, 1, 4};
        for (int what = 0; what < want.length; what++) {
            Kit.due("count(" + what + ")", x.count(what), want[what]);
        }
        x.hour();
        x.hour();
        Kit.due("TREASURY", x.count(8), 50);
        Kit.due("BILLS", x.count(9), 0);
        Kit.due("LOG", x.count(12), 3);
        Kit.due("count(14)", x.count(14), NearlyBought.HIDDEN);
        Kit.due("count(-1)", x.count(-1), NearlyBought.HIDDEN);
    }

    public static void main(String[] args) {
        shares();
        wholes();
        counts();
        Kit.end();
    }
}
