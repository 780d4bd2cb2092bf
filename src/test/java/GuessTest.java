/** Promises 33 to 35: seen, desires, ask. */
public final class GuessTest {
    private static void desires(NearlyBought x, int buyer, int... want) {
        Kit.due("desires(" + buyer + ", NONE)", x.desires(buyer, -1), want.length);
        for (int i = 0; i < want.length; i++) {
            Kit.due("desires(" + buyer + ", " + i + ")", x.desires(buyer, i), want[i]);
        }
        Kit.due("no such one", x.desires(buyer, want.length), -1);
        Kit.due("no such one", x.desires(buyer, -2), -1);
        Kit.due("no such one", x.desires(buyer, Integer.MAX_VALUE), -1);
    }

    private static NearlyBought city() {
        // With DESIRE 1 .. 4 he puts it BACK in the third HOUR, with 5 .. 9 he BUYS it, with 0 he leaves it.
        return Kit.city("sr8y30;tp20w0;bd5n9;bd0");
    }

    private static void guesses() {
        NearlyBought x = city();
        desires(x, 0, 0, 1, 2, 3, 4, 5, 6, 7, 8, 9);
        Kit.due("ask", x.ask(0), 3);
        Kit.due("seen", x.seen(3, 1, true), 1);
        desires(x, 0, 1, 2, 3, 4);
        Kit.due("ask: all agree, the least", x.ask(0), 1);
        Kit.due("by another BUYER nothing fits", x.desires(1, -1), 0);
        Kit.due("by another BUYER nothing fits", x.ask(1), -1);
        Kit.due("seen", x.seen(2, 1, false), 2);
        desires(x, 0, 1, 2, 3, 4);
        Kit.due("seen", x.seen(60, 20, true), 3);
        desires(x, 0, 1, 2, 3, 4);
        x.clerk(0);
        x.rate(0);
        x.gift(0, 50);
        x.years(30, 1);
        desires(x, 0, 1, 2, 3, 4);
        Kit.law(x, "y:1");
        Kit.due("the LAW that holds", x.desires(0, -1), 10);
        x.law(-1);
        Kit.due("seen", x.seen(3, 20, false), 4);
        desires(x, 0);
        Kit.due("nothing fits", x.ask(0), -1);
        x = city();
        x.seen(3, 1, false);
        desires(x, 0, 0, 5, 6, 7, 8, 9);
        x = city();
        x.seen(3, 20, true);
        x.seen(3, 21, false);
        desires(x, 0, 1, 2, 3, 4);
        x = city();
        x.seen(3, 21, true);
        desires(x, 0);
    }

    private static void lastHour() {
        // He picks it up in the HOUR 57 alone, puts it BACK in 59 and pays the 2 that he has then.
        NearlyBought x = Kit.city("sy20i1r8;tp99w0;bm0n9");
        Kit.law(x, "y:h=9&m=2?d");
        Kit.due("ask", x.ask(0), 60);
        x.seen(60, 2, true);
        desires(x, 0, 1, 2, 3, 4, 5, 6, 7, 8, 9);
    }

    private static void edges() {
        NearlyBought x = city();
        Kit.due("desires(2, NONE)", x.desires(2, -1), -1);
        Kit.due("desires(-1, NONE)", x.desires(-1, -1), -1);
        Kit.due("ask(2)", x.ask(2), -1);
        Kit.due("ask(-1)", x.ask(-1), -1);
        Kit.due("seen(0)", x.seen(0, 1, true), -1);
        Kit.due("seen(61)", x.seen(61, 1, true), -1);
        Kit.due("v -1", x.seen(1, -1, true), -1);
        Kit.due("v 1000", x.seen(1, 1000, true), -1);
        for (int i = 1; i <= 10; i++) {
            Kit.due("seen", x.seen(i % 2 == 0 ? 1 : 60, i % 2 == 0 ? 0 : 999, i % 2 == 0), i);
        }
        Kit.due("there are ten", x.seen(1, 0, true), -1);
        Kit.due("count(11)", x.count(11), 10);
        Kit.due("STATUS", x.status(0) + x.status(1), 0);
    }

    public static void main(String[] args) {
        guesses();
        lastHour();
        edges();
        Kit.end();
    }
}
