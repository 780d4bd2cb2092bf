/** All that can be seen of an object, as one text; what ACTS and the IMAGE hold is seen by going back. */
final class Looks {
    private Looks() {
    }

    static String of(NearlyBought x) {
        StringBuilder s = new StringBuilder();
        texts(x, s);
        now(x, s);
        for (int i = 0; i < 2; i++) {
            s.append(" undo ").append(x.undo());
            brief(x, s);
        }
        s.append(" back ").append(x.back());
        brief(x, s);
        return s.toString();
    }

    private static void texts(NearlyBought x, StringBuilder s) {
        for (int what = 0; what < 14; what++) {
            s.append(x.count(what)).append(' ');
        }
        for (int sort = 0; sort < 3; sort++) {
            s.append(x.fault(sort)).append(' ');
        }
        for (int day = 0; day < x.count(3); day++) {
            for (int i = 0; x.step(day, i, 0) >= 0; i++) {
                s.append(x.step(day, i, 0)).append(x.step(day, i, 1)).append(x.step(day, i, 2)).append(' ');
            }
        }
        for (int b = 0; b < x.count(1); b++) {
            s.append(x.desires(b, -1)).append(' ');
        }
    }

    private static void now(NearlyBought x, StringBuilder s) {
        for (int t = 0; t < x.count(0); t++) {
            for (int what = 0; what < 6; what++) {
                s.append(x.thing(t, what)).append(' ');
            }
        }
        for (int b = 0; b < x.count(1); b++) {
            for (int what = 0; what < 7; what++) {
                s.append(x.buyer(b, what)).append(' ');
            }
            s.append(x.liking(b, 0)).append(' ');
            for (int i = 0; x.bill(b, i, 0) >= 0; i++) {
                s.append(x.bill(b, i, 0)).append('/').append(x.bill(b, i, 1)).append('/').append(x.bill(b, i, 2));
                s.append(' ');
            }
        }
        s.append(x.all(11)).append(' ');
        for (int i = 0; i < Math.min(20, x.count(12)); i++) {
            s.append(x.log(i, 0)).append('/').append(x.log(i, 1)).append('/').append(x.log(i, 2)).append(' ');
        }
    }

    private static void brief(NearlyBought x, StringBuilder s) {
        for (int what = 6; what < 14; what++) {
            s.append(' ').append(x.count(what));
        }
        for (int what = 6; what < 12; what++) {
            s.append(' ').append(x.all(what));
        }
        for (int b = 0; b < x.count(1); b++) {
            s.append(' ').append(x.buyer(b, 0));
        }
    }
}
