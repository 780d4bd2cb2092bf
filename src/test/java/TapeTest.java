/** Promises 2 and 3: feed, end. */
public final class TapeTest {
    public static void main(String[] args) {
        NearlyBought x = new NearlyBought();
        Kit.due("feed of nothing", x.feed(0, 0, 0, 0, 0), 0);
        Kit.due("the highest byte first", x.feed(Kit.word("t;b", 0), 0, 0, 0, 0), 3);
        Kit.due("it is a CITY", x.fault(0), -1);
        Kit.due("end(4)", x.end(4), false);
        Kit.due("end(-1)", x.end(-1), false);
        Kit.due("end(min)", x.end(Integer.MIN_VALUE), false);
        Kit.due("end(3)", x.end(3), true);
        Kit.due("end(2)", x.end(2), true);
        Kit.due("count(4)", x.count(4), 2);
        Kit.due("cut too short", x.fault(0), 2);
        Kit.due("bytes of 0 between are left out", x.feed(0x62000000, 0x00200000, 0x00002000, 0x00000020, 0), 6);
        Kit.due("it is a CITY again", x.fault(0), -1);
        Kit.due("text", x.text(0), 1);
        Kit.due("the TAPE is empty", x.count(4), 0);
        int full = 0x20202020;
        for (int n = 20; n <= 240; n += 20) {
            Kit.due("feed to " + n, x.feed(full, full, full, full, full), n);
        }
        Kit.due("one byte too many", x.feed(0, 0, 0, 0, 1), -1);
        Kit.due("no byte more", x.feed(0, 0, 0, 0, 0), 240);
        Kit.due("count(4)", x.count(4), 240);
        Kit.due("blanks alone", x.fault(0), 240);
        Kit.due("end(239)", x.end(239), true);
        Kit.due("two bytes too many are refused whole", x.feed(full, 0, 0, 0, 0), -1);
        Kit.due("count(4)", x.count(4), 239);
        Kit.due("the last byte", x.feed(0xff, 0, 0, 0, 0), 240);
        Kit.due("a byte above 127", x.fault(2), 239);
        Kit.end();
    }
}
