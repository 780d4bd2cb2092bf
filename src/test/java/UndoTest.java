/** Promises 20, 22, 41 and 42: years, undo, image, back. */
public final class UndoTest {
    private static long x;

    private static int draw(int j) {
        x = x * 6364136223846793005L + 1442695040888963407L;
        return (int) ((x >>> 33) % j);
    }

    /** YEARS as the document tells them, by acts of which each is known. */
    private static void yearsByActs(long seed, int tempted) {
        String text = "sy7r6;tp40w5;tp25s1w9;tp60s3;b;bm60d9n9;bk1";
        NearlyBought drawn = Kit.city(text);
        NearlyBought acted = Kit.city(text);
        drawn.tempted(tempted);
        x = seed;
        for (int i = 0; i < 30; i++) {
            if (draw(10) < tempted) {
                acted.clerk(draw(4));
            }
            if (draw(10) < 2) {
                int buyer = draw(3);
                acted.gift(buyer, draw(10) + 1);
            }
            acted.hour();
        }
        Kit.due("years", drawn.years(30, seed), 30);
        for (int what = 6; what < 10; what++) {
            Kit.due("count", drawn.count(what), acted.count(what));
        }
        for (int what = 0; what < 13; what++) {
            Kit.due("all", drawn.all(what), acted.all(what));
        }
        for (int b = 0; b < 3; b++) {
            Kit.due("PURSE", drawn.buyer(b, 0), acted.buyer(b, 0));
        }
        for (int i = 0; i < 30; i++) {
            for (int what = 0; what < 3; what++) {
                Kit.due("LOG", drawn.log(i, what), acted.log(i, what));
            }
        }
        Kit.due("each HOUR is one ACT", drawn.count(13), 30);
    }

    private static void edges() {
        NearlyBought x = new NearlyBought();
        Kit.due("no CITY", x.years(1, 1), -1);
        Kit.text(x, 0, "t;bm0");
        Kit.due("years(0)", x.years(0, 1), -1);
        Kit.due("years(31)", x.years(31, 1), -1);
        Kit.due("no STATUS", x.status(0) + x.status(1), 0);
        Kit.due("years(30)", x.years(30, -1), 30);
        Kit.due("years(20)", x.years(20, Long.MIN_VALUE), 50);
        Kit.due("40 ACTS at most", x.count(13), 40);
    }

    private static void fullPurse() {
        NearlyBought x = Kit.city("sy30;tp99w0;bm99d0");
        for (int i = 0; i < 18; i++) {
            x.gift(0, 50);
        }
        Kit.due("PURSE", x.buyer(0, 0), 999);
        Kit.due("29 HOURS", x.years(29, 5), 29);
        Kit.due("999 at most", x.buyer(0, 0), 999);
    }

    private static String looks(NearlyBought x) {
        StringBuilder s = new StringBuilder();
        for (int t = 0; t < x.count(0); t++) {
            for (int what = 0; what < 6; what++) {
                s.append(x.thing(t, what)).append(' ');
            }
        }
        for (int b = 0; b < x.count(1); b++) {
            for (int what = 0; what < 7; what++) {
                s.append(x.buyer(b, what)).append(' ');
            }
            for (int i = 0; i < x.buyer(b, 6); i++) {
                s.append(x.bill(b, i, 0)).append(x.bill(b, i, 1)).append(x.bill(b, i, 2)).append(' ');
            }
        }
        for (int what = 6; what < 10; what++) {
            s.append(x.count(what)).append(' ');
        }
        s.append(x.all(11)).append(' ').append(x.count(12));
        for (int i = 0; i < x.count(12); i++) {
            s.append(' ').append(x.log(i, 0)).append(x.log(i, 1)).append(x.log(i, 2));
        }
        return s.toString();
    }

    private static void act(NearlyBought x, int i) {
        switch (i % 8) {
            case 0 -> x.pick(0, 0);
            case 1 -> x.hand(0, 1);
            case 2 -> x.putBack(1);
            case 3 -> x.clerk(i / 8 % 4);
            case 4 -> x.rate((x.count(7) + 1) % 9);
            case 5 -> x.gift(i % 3, 2);
            case 6 -> x.perform(0);
            default -> x.hour();
        }
    }

    private static void undoing() {
        NearlyBought x = Kit.city("sy5r4;tp30w7;tp50;b;b;b");
        Kit.day(x, "h");
        Kit.law(x, "y:9-h");
        Kit.due("none", x.undo(), -1);
        java.util.List<String> looked = new java.util.ArrayList<>();
        for (int i = 0; i < 60; i++) {
            String before = looks(x);
            int acts = x.count(13);
            int hour = x.count(6);
            act(x, i);
            if (x.count(13) > acts || acts == 40 && (!before.equals(looks(x)) || x.count(6) > hour)) {
                looked.add(before);
            }
        }
        Kit.due("40 ACTS at most", x.count(13), 40);
        x.seen(3, 3, true);
        x.tempted(7);
        for (int left = 39; left >= 0; left--) {
            Kit.due("undo", x.undo(), left);
            Kit.due("as it was", looks(x).equals(looked.get(looked.size() - 40 + left)), true);
        }
        Kit.due("none", x.undo(), -1);
        Kit.due("SEEN stays", x.count(11), 1);
        Kit.due("TEMPTED stays", x.count(10), 7);
        Kit.due("the LAW holds on", x.count(5), 0);
    }

    private static void longLogs() {
        NearlyBought x = Kit.city("sy4r3;tp50w7;tp60;tp30w3;b;b;bd9n9");
        x.years(30, 1);
        x.years(25, 2);
        String at = looks(x);
        x.image();
        x.years(30, 3);
        x.years(30, 4);
        Kit.due("LOG", x.count(12), 60);
        x.back();
        Kit.due("LOG of the IMAGE", x.count(12), 55);
        Kit.due("they are so again", looks(x).equals(at), true);
        x.years(20, 5);
        String later = looks(x);
        Kit.due("one HOUR", x.years(1, 7), 76);
        x.years(30, 6);
        x.years(9, 6);
        for (int i = 0; i < 40; i++) {
            x.undo();
        }
        Kit.due("LOG UNDONE", looks(x).equals(later), true);
    }

    private static void images() {
        NearlyBought x = new NearlyBought();
        Kit.due("no CITY", x.image(), -1);
        Kit.due("no IMAGE", x.back(), -1);
        Kit.text(x, 0, "sy4r8;tp30w7;tp21;b;b;b");
        Kit.due("no IMAGE of this CITY", x.back(), -1);
        for (int i = 0; i < 20; i++) {
            act(x, i);
        }
        int hour = x.count(6);
        String at = looks(x);
        Kit.due("IMAGE", x.image(), hour);
        Kit.due("ACTS stay", x.count(13) > 0, true);
        x.years(30, 3);
        x.rate(1);
        Kit.due("BACK", x.back(), hour);
        Kit.due("they are so again", looks(x).equals(at), true);
        Kit.due("no ACT can be UNDONE", x.undo(), -1);
        Kit.due("count(13)", x.count(13), 0);
        x.years(5, 3);
        Kit.due("BACK again", x.back(), hour);
        Kit.due("they are so again", looks(x).equals(at), true);
        x.hour();
        Kit.due("another IMAGE", x.image(), hour + 1);
        x.undo();
        Kit.due("instead of the one ahead", x.back(), hour + 1);
        Kit.text(x, 0, "t;b");
        Kit.due("not of this CITY", x.back(), -1);
        Kit.due("IMAGE", x.image(), 0);
        Kit.due("BACK", x.back(), 0);
    }

    public static void main(String[] args) {
        yearsByActs(1, 2);
        yearsByActs(-987654321987654321L, 9);
        yearsByActs(0, 0);
        yearsByActs(42, 5);
        edges();
        fullPurse();
        undoing();
        longLogs();
        images();
        Kit.end();
    }
}
