/** Promises 30, 36 and 37: seek, game, rests. */
public final class ChoiceTest {
    private static void seek(NearlyBought x, int buyer, int n, int worth, int order) {
        Kit.due("seek(" + buyer + ", " + n + ", 0)", x.seek(buyer, n, 0), worth);
        Kit.due("seek(" + buyer + ", " + n + ", 1)", x.seek(buyer, n, 1), order);
    }

    private static void seeking() {
        NearlyBought x = Kit.city("sr8;tp10w5;tp10w0;bd5;bd5k2;bd5k1");
        seek(x, 0, 1, 7500, 10);
        seek(x, 0, 4, 7500, 10);
        seek(x, 1, 1, 12500, 10);
        seek(x, 1, 2, 13500, 101);
        seek(x, 1, 4, 13500, 101);
        // With a stick 5 would be due: 10,000 of the first alone; the second is worth less than nothing.
        seek(x, 2, 2, 10000, 10);
        // What would be due is the same while the CLERK looks AWAY.
        x.clerk(0);
        seek(x, 0, 4, 7500, 10);
        seek(x, 1, 2, 13500, 101);
        seek(x, 2, 2, 10000, 10);
        x.clerk(0);
        x.rate(0);
        seek(x, 0, 2, 13500, 101);
        Kit.due("seek(0, 0, 0)", x.seek(0, 0, 0), -1);
        Kit.due("seek(0, 5, 0)", x.seek(0, 5, 0), -1);
        Kit.due("seek(0, 1, 2)", x.seek(0, 1, 2), -1);
        Kit.due("seek(0, 1, -1)", x.seek(0, 1, -1), -1);
        Kit.due("seek(3, 1, 0)", x.seek(3, 1, 0), -1);
        Kit.due("seek(-1, 1, 0)", x.seek(-1, 1, 0), -1);
        x.pick(0, 0);
        Kit.due("he HOLDS one", x.seek(0, 1, 0), -1);
        seek(x, 1, 4, 2000, 11);
        x.buy(0);
        seek(x, 1, 4, 2000, 11);
        x.pick(0, 1);
        seek(x, 1, 4, 0, 1);
        x = Kit.city("tp10;tp10;tp10;tp10;tp10;tp10;tp10;tp10;bk2");
        // 22 and a chance of 26: 5,720, then 9,952, 13,084, 15,402 with what is left, cut.
        seek(x, 0, 1, 5720, 10);
        seek(x, 0, 2, 9952, 101);
        seek(x, 0, 3, 13084, 1012);
        seek(x, 0, 4, 15402, 10123);
        Kit.law(x, "y:0");
        seek(x, 0, 4, 0, 1);
        Kit.law(x, "y:s=0?w");
        seek(x, 0, 1, 520, 10);
    }

    private static void games() {
        NearlyBought x = Kit.city("tp20;tp99;b;bk2;b");
        int[] seller = {20, 18, 16, 14};
        for (int off = 0; off < 4; off++) {
            Kit.due("leaves it", x.game(0, 0, off, 0, 0), 0);
            Kit.due("leaves it", x.game(0, 0, off, 0, 1), 0);
            Kit.due("takes it", x.game(0, 0, off, 1, 0), seller[off]);
            Kit.due("takes it", x.game(0, 0, off, 1, 1), 22 - seller[off]);
            Kit.due("touches it", x.game(0, 0, off, 2, 0), 1);
            Kit.due("touches it", x.game(0, 0, off, 2, 1), 0);
            Kit.due("a thief touches it", x.game(1, 0, off, 2, 1), 5);
        }
        Kit.due("cut: 99 less 29", x.game(0, 1, 3, 1, 0), 70);
        Kit.due("cut: 99 less 9", x.game(0, 1, 1, 1, 0), 90);
        x.clerk(0);
        Kit.due("the CLERK looks AWAY", x.game(0, 0, 0, 2, 1), 0);
        Kit.due("the CLERK looks AWAY", x.game(0, 1, 0, 2, 1), -19);
        Kit.due("a thief, the CLERK looks AWAY", x.game(1, 0, 0, 2, 1), 5);
        rests(x, 0, 0, 1);
        x.clerk(0);
        int hidden = NearlyBought.HIDDEN;
        Kit.due("no such BUYER", x.game(3, 0, 0, 0, 0), hidden);
        Kit.due("no such BUYER", x.game(-1, 0, 0, 0, 0), hidden);
        Kit.due("no such THING", x.game(0, 2, 0, 0, 0), hidden);
        Kit.due("no such THING", x.game(0, -1, 0, 0, 0), hidden);
        Kit.due("x 4", x.game(0, 0, 4, 0, 0), hidden);
        Kit.due("x -1", x.game(0, 0, -1, 0, 0), hidden);
        Kit.due("y 3", x.game(0, 0, 0, 3, 0), hidden);
        Kit.due("y -1", x.game(0, 0, 0, -1, 0), hidden);
        Kit.due("what 2", x.game(0, 0, 0, 0, 2), hidden);
        Kit.due("what -1", x.game(0, 0, 0, 0, -1), hidden);
        rests(x, 0, 0, 1);
        rests(x, 1, 0, 2, 12);
        Kit.law(x, "y:10");
        rests(x, 0, 0, 0, 10, 20, 30);
        rests(x, 1, 0, 2, 12, 22, 32);
        // Were nothing due while the CLERK looks AWAY, to touch it alone would be a REST.
        x.clerk(0);
        rests(x, 0, 0, 0, 10, 20, 30);
        x.clerk(0);
        Kit.law(x, "y:20");
        rests(x, 0, 0, 0, 1, 2);
        x.pick(2, 0);
        Kit.due("HELD by another", x.game(0, 0, 0, 1, 0), 20);
        x.buy(2);
        Kit.due("SOLD", x.game(0, 0, 0, 1, 0), hidden);
        Kit.due("SOLD", x.rests(0, 0, -1), -1);
        Kit.due("no such BUYER", x.rests(3, 1, -1), -1);
        Kit.due("no such BUYER", x.rests(-1, 1, -1), -1);
        Kit.due("no such THING", x.rests(0, 2, -1), -1);
        Kit.due("no such THING", x.rests(0, -1, -1), -1);
    }

    private static void rests(NearlyBought x, int buyer, int thing, int... want) {
        Kit.due("rests(" + buyer + ", " + thing + ", NONE)", x.rests(buyer, thing, -1), want.length);
        for (int i = 0; i < want.length; i++) {
            Kit.due("rests(" + buyer + ", " + thing + ", " + i + ")", x.rests(buyer, thing, i), want[i]);
        }
        Kit.due("no such one", x.rests(buyer, thing, want.length), -1);
        Kit.due("no such one", x.rests(buyer, thing, -2), -1);
    }

    public static void main(String[] args) {
        seeking();
        games();
        Kit.end();
    }
}
