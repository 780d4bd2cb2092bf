/** Promise 1: a new object has no CITY; what it answers then. */
public final class NewTest {
    public static void main(String[] args) {
        NearlyBought x = new NearlyBought();
        int[] counts = {0, 0, 0, 0, 0, NearlyBought.NONE, 0, 0, 0, 0, 2, 0, 0, 0};
        for (int what = 0; what < counts.length; what++) {
            Kit.due("count(" + what + ")", x.count(what), counts[what]);
        }
        Kit.due("count(-1)", x.count(-1), NearlyBought.HIDDEN);
        Kit.due("count(14)", x.count(14), NearlyBought.HIDDEN);
        for (int what = 0; what < 6; what++) {
            Kit.due("status", x.status(what), 0);
            Kit.due("thing", x.thing(0, what), NearlyBought.HIDDEN);
        }
        Kit.due("buyer(0, 0) throws", Kit.throwsNoSuch(x, 0, 0), true);
        Kit.due("back", x.back(), -1);
        Kit.due("image", x.image(), -1);
        Kit.due("undo", x.undo(), -1);
        Kit.due("all(6)", x.all(6), NearlyBought.HIDDEN);
        Kit.end();
    }
}
