/** Promises 24 to 26: step, run, perform. */
public final class DayTest {
    private static void steps() {
        NearlyBought x = new NearlyBought();
        Kit.due("a DAY", Kit.text(x, 2, "p 1 2;b3;g45;y6;h"), 0);
        int[][] want = {{0, 1, 2}, {1, 3, -1}, {2, 4, 5}, {3, 6, -1}, {4, -1, -1}};
        for (int i = 0; i < 5; i++) {
            for (int what = 0; what < 3; what++) {
                Kit.due("step(0, " + i + ", " + what + ")", x.step(0, i, what), want[i][what]);
            }
        }
        Kit.due("step(0, 5, 0)", x.step(0, 5, 0), NearlyBought.HIDDEN);
        Kit.due("step(0, -1, 0)", x.step(0, -1, 0), NearlyBought.HIDDEN);
        Kit.due("step(1, 0, 0)", x.step(1, 0, 0), NearlyBought.HIDDEN);
        Kit.due("step(-1, 0, 0)", x.step(-1, 0, 0), NearlyBought.HIDDEN);
        Kit.due("step(0, 0, 3)", x.step(0, 0, 3), NearlyBought.HIDDEN);
        Kit.due("step(0, 0, -1)", x.step(0, 0, -1), NearlyBought.HIDDEN);
        Kit.due("no CITY", x.run(0, 0), NearlyBought.HIDDEN);
        Kit.due("no CITY", x.perform(0), -1);
        x.fault(2);
        Kit.feed(x, "h;h");
        x.fault(2);
        Kit.due("fault leaves the DAY", x.step(0, 0, 0), 0);
    }

    private static void run(String day, int behind, int due) {
        NearlyBought x = Kit.city("sr8y30;tp20;tp10;tp90;b;b;bm0");
        int n = Kit.day(x, day);
        Kit.due("run(0) of " + day, x.run(n, 0), behind);
        Kit.due("run(1) of " + day, x.run(n, 1), due);
        Kit.due("it is apart", x.count(13) + x.count(6) + x.count(9) + x.all(6), 0);
        int done = behind == -1 ? 1 + day.length() - day.replace(";", "").length() : behind;
        Kit.due("perform of " + day, x.perform(n), done);
        Kit.due("ACTS", x.count(13), done);
        Kit.due("DUE", x.all(10), due);
        for (int what = 0; what < 6; what++) {
            Kit.due("no STATUS", x.status(what), 0);
        }
        for (int left = done - 1; left >= 0; left--) {
            Kit.due("undo", x.undo(), left);
        }
        Kit.due("as it was", x.count(9) + x.count(6) + x.all(6) + x.all(8) + x.count(12), 0);
    }

    public static void main(String[] args) {
        steps();
        run("p00;b0", -1, 20);
        run("b0;p00", 0, 0);
        run("p00;p01", 1, 0);
        run("p00;p10", 1, 0);
        run("p03", 0, 0);
        run("p30", 0, 0);
        run("p00;b0;p01;b0;b0;h", 4, 30);
        run("p00;g01;b1;p11;g10;y0;y0", 6, 20);
        run("p00;g00", 1, 0);
        run("p00;g03", 1, 0);
        run("p00;p11;g01", 2, 0);
        run("p20;y2;h", 1, 0);
        run("p00;b0;p00;y0", -1, 0);
        run("p02;b0;h", -1, 90);
        NearlyBought x = Kit.city("t;b");
        Kit.day(x, "h");
        Kit.due("run(1, 0)", x.run(1, 0), NearlyBought.HIDDEN);
        Kit.due("run(-1, 0)", x.run(-1, 0), NearlyBought.HIDDEN);
        Kit.due("run(0, 2)", x.run(0, 2), NearlyBought.HIDDEN);
        Kit.due("run(0, -1)", x.run(0, -1), NearlyBought.HIDDEN);
        Kit.due("perform(1)", x.perform(1), -1);
        Kit.due("perform(-1)", x.perform(-1), -1);
        Kit.end();
    }
}
