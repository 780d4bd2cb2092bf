import java.util.Arrays;
import java.util.NoSuchElementException;

/** The tax on what was nearly bought: shops, clerks, things, buyers, bills and Michaelmas. */
public final class NearlyBought {
    public static final int NONE = -1;
    public static final int HIDDEN = -1000000;

    private static final int MOST_BYTES = 240;
    private static final int MOST_THINGS = 8;
    private static final int MOST_BUYERS = 6;
    private static final int MOST_SHOPS = 4;
    private static final int MOST_LAWS = 4;
    private static final int MOST_DAYS = 4;
    private static final int MOST_BILLS = 24;
    private static final int MOST_LOGGED = 60;
    private static final int MOST_ACTS = 40;
    private static final int MOST_SEEN = 10;
    private static final int LAST_HOUR = 9999;
    private static final int MOST_TREASURY = 9999;
    private static final int MOST_PURSE = 999;
    private static final int MOST_AHEAD = 60;
    private static final int DESIRES = 10;

    // The signs of the STATUS: why an ACT was refused.
    private static final int NO_SUCH = 0;
    private static final int OUT_OF_BOUNDS = 1;
    private static final int NOT_SO = 2;
    private static final int HOLDS_ONE = 3;
    private static final int TOO_LITTLE = 4;
    private static final int TOO_LATE = 5;
    private static final int REASONS = 6;

    private final Tape tape = new Tape();
    private final Law[] laws = new Law[MOST_LAWS + 1];
    private final Day[] days = new Day[MOST_DAYS + 1];
    private final int[] status = new int[REASONS];
    private final State now = new State();
    private final State image = new State();
    private final History history = new History();
    private final Trade trade = new Trade();
    private final Outlook outlook = new Outlook();
    private final Guess guess = new Guess();
    private final Bargain bargain = new Bargain();
    private City draft = new City();
    private int lawCount = 0;
    private int lawHolding = NONE;
    private int dayCount = 0;
    private int tempted = 2;
    private boolean imageKept = false;
    private long drawn = 0;

    public NearlyBought() {
        // One more than can be kept: fault() reads into the one behind the last.
        for (int i = 0; i < laws.length; i++) {
            laws[i] = new Law();
        }
        for (int i = 0; i < days.length; i++) {
            days[i] = new Day();
        }
    }

    // ---- texts

    public int feed(int a, int b, int c, int d, int e) {
        int more = tape.bytesIn(a) + tape.bytesIn(b) + tape.bytesIn(c) + tape.bytesIn(d) + tape.bytesIn(e);
        if (tape.length + more > MOST_BYTES) {
            return NONE;
        }
        tape.add(a);
        tape.add(b);
        tape.add(c);
        tape.add(d);
        tape.add(e);
        return tape.length;
    }

    public boolean end(int n) {
        if (n < 0 || n > tape.length) {
            return false;
        }
        tape.length = n;
        return true;
    }

    public int fault(int sort) {
        switch (sort) {
            case 0:
                return draft.read(tape);
            case 1:
                return laws[lawCount].read(tape);
            case 2:
                return days[dayCount].read(tape);
            default:
                return -2;
        }
    }

    public int text(int sort) {
        if (fault(sort) != NONE) {
            return NONE;
        }
        switch (sort) {
            case 0:
                return settle();
            case 1:
                return lawCount < MOST_LAWS ? keepLaw() : NONE;
            default:
                return dayCount < MOST_DAYS ? keepDay() : NONE;
        }
    }

    private int settle() {
        City told = draft;
        draft = trade.city;
        trade.city = told;
        tape.length = 0;
        now.beginAs(told);
        history.forget();
        guess.forget();
        imageKept = false;
        return told.things;
    }

    private int keepLaw() {
        tape.length = 0;
        lawCount++;
        return lawCount - 1;
    }

    private int keepDay() {
        tape.length = 0;
        dayCount++;
        return dayCount - 1;
    }

    // ---- what is told

    public int thing(int thing, int what) {
        if (!trade.isThing(thing)) {
            return HIDDEN;
        }
        switch (what) {
            case 0:
                return trade.city.priceOf(thing);
            case 1:
                return now.weight[thing];
            case 2:
                return trade.city.shopOf(thing);
            case 3:
                return now.owner[thing];
            case 4:
                return now.sold[thing];
            case 5:
                return now.held[thing];
            default:
                return HIDDEN;
        }
    }

    public int buyer(int buyer, int what) throws NoSuchElementException {
        if (!trade.isBuyer(buyer) || what < 0 || what > 6) {
            throw new NoSuchElementException();
        }
        switch (what) {
            case 0:
                return now.purse[buyer];
            case 1:
                return now.desire[buyer];
            case 2:
                return trade.city.nerveOf(buyer);
            case 3:
                return trade.city.kindOf(buyer);
            case 4:
                return now.holds[buyer];
            case 5:
                return now.dueOf(buyer);
            default:
                return now.billsOf(buyer);
        }
    }

    public int liking(int buyer, int thing) {
        if (!trade.isBuyer(buyer) || !trade.isThing(thing)) {
            return NONE;
        }
        return trade.liked(now, buyer, thing);
    }

    public int bill(int buyer, int i, int what) {
        if (!trade.isBuyer(buyer) || what < 0 || what > 2) {
            return NONE;
        }
        int row = now.billRow(buyer, i);
        return row == NONE ? NONE : now.bills[row + 1 + what];
    }

    public boolean law(int law) {
        if (law < NONE || law >= lawCount) {
            return false;
        }
        lawHolding = law;
        trade.law = law == NONE ? null : laws[law];
        return true;
    }

    public boolean tempted(int v) {
        if (v < 0 || v > 9 || v == tempted) {
            return false;
        }
        tempted = v;
        return true;
    }

    // ---- ACTS

    public int pick(int buyer, int thing) {
        if (refused(trade.whyNotPick(now, buyer, thing))) {
            return NONE;
        }
        history.keep(now);
        trade.pickUp(now, buyer, thing);
        return trade.liked(now, buyer, thing);
    }

    public int putBack(int buyer) {
        if (refused(trade.whyNotPutBack(now, buyer))) {
            return NONE;
        }
        history.keep(now);
        return trade.layBack(now, buyer);
    }

    public int hand(int buyer, int other) {
        if (refused(trade.whyNotHand(now, buyer, other))) {
            return NONE;
        }
        history.keep(now);
        return trade.passOn(now, buyer, other);
    }

    public int buy(int buyer) {
        if (refused(trade.whyNotBuy(now, buyer))) {
            return NONE;
        }
        history.keep(now);
        return trade.purchase(now, buyer);
    }

    public int hour() {
        if (refused(trade.whyNotHour(now))) {
            return NONE;
        }
        history.keep(now);
        trade.passHour(now);
        return now.holders();
    }

    public int clerk(int shop) {
        if (refused(whyNotClerk(shop))) {
            return NONE;
        }
        history.keep(now);
        now.away ^= 1 << shop;
        return now.away >> shop & 1;
    }

    private int whyNotClerk(int shop) {
        if (!trade.hasCity()) {
            return NO_SUCH;
        }
        return shop < 0 || shop >= MOST_SHOPS ? OUT_OF_BOUNDS : NONE;
    }

    public int rate(int v) {
        if (refused(whyNotRate(v))) {
            return NONE;
        }
        history.keep(now);
        int before = now.rate;
        now.rate = v;
        return before;
    }

    private int whyNotRate(int v) {
        if (!trade.hasCity()) {
            return NO_SUCH;
        }
        if (v < 0 || v > 8) {
            return OUT_OF_BOUNDS;
        }
        return v == now.rate ? NOT_SO : NONE;
    }

    public int gift(int buyer, int n) {
        if (refused(whyNotGift(buyer, n))) {
            return NONE;
        }
        history.keep(now);
        now.purse[buyer] += n;
        return now.purse[buyer];
    }

    private int whyNotGift(int buyer, int n) {
        if (!trade.isBuyer(buyer)) {
            return NO_SUCH;
        }
        return n < 1 || n > 50 || now.purse[buyer] + n > MOST_PURSE ? OUT_OF_BOUNDS : NONE;
    }

    private boolean refused(int why) {
        if (why < 0 || why >= REASONS) {
            return false;
        }
        status[why]++;
        return true;
    }

    public int years(int n, long seed) {
        if (!trade.hasCity() || n < 1 || n > 30 || now.hour + n > LAST_HOUR) {
            return NONE;
        }
        drawn = seed;
        for (int i = 0; i < n; i++) {
            history.keep(now);
            drawWhatComes();
            trade.passHour(now);
        }
        return now.hour;
    }

    private void drawWhatComes() {
        if (draw(10) < tempted) {
            now.away ^= 1 << draw(MOST_SHOPS);
        }
        if (draw(10) < 2) {
            int buyer = draw(trade.city.buyers);
            int more = draw(10) + 1;
            now.purse[buyer] = Math.min(MOST_PURSE, now.purse[buyer] + more);
        }
    }

    private int draw(int among) {
        drawn = drawn * 6364136223846793005L + 1442695040888963407L;
        return among > 0 ? (int) ((drawn >>> 33) % among) : 0;
    }

    public int status(int what) {
        return what < 0 || what >= REASONS ? NONE : status[what];
    }

    public int undo() {
        if (history.count == 0) {
            return NONE;
        }
        history.restore(now);
        return history.count;
    }

    public int log(int i, int what) {
        if (i < 0 || i >= now.logLength || what < 0 || what > 2) {
            return NONE;
        }
        return now.log[(now.logLength - 1 - i) * State.LOG_ROW + what];
    }

    // ---- DAYS

    public int step(int day, int i, int what) {
        if (day < 0 || day >= dayCount || i < 0 || i >= days[day].length || what < 0 || what > 2) {
            return HIDDEN;
        }
        return days[day].part(i, what);
    }

    public int run(int day, int what) {
        if (!trade.hasCity() || day < 0 || day >= dayCount || what < 0 || what > 1) {
            return HIDDEN;
        }
        State ahead = outlook.startingAt(now);
        int done = 0;
        for (int i = 0; i < days[day].length && trade.whyNotStep(ahead, days[day], i) == NONE; i++) {
            trade.makeStep(ahead, days[day], i);
            done++;
        }
        if (what == 1) {
            return ahead.dueOfAll();
        }
        return done == days[day].length ? NONE : done;
    }

    public int perform(int day) {
        if (!trade.hasCity() || day < 0 || day >= dayCount) {
            return NONE;
        }
        int done = 0;
        for (int i = 0; i < days[day].length && trade.whyNotStep(now, days[day], i) == NONE; i++) {
            history.keep(now);
            trade.makeStep(now, days[day], i);
            done++;
        }
        return done;
    }

    // ---- what would be

    public int treasury(int n) {
        if (!trade.hasCity() || n < 0 || n > MOST_AHEAD) {
            return NONE;
        }
        return outlook.behind(trade, now, n).treasury;
    }

    public int purse(int buyer, int n) {
        if (!trade.isBuyer(buyer) || n < 0 || n > MOST_AHEAD) {
            return NONE;
        }
        return outlook.behind(trade, now, n).purse[buyer];
    }

    public int whose(int thing, int n) {
        if (!trade.isThing(thing) || n < 0 || n > MOST_AHEAD) {
            return NONE;
        }
        return outlook.behind(trade, now, n).owner[thing];
    }

    public int seek(int buyer, int n, int what) {
        if (!trade.isBuyer(buyer) || now.holds[buyer] != NONE || n < 1 || n > 4 || what < 0 || what > 1) {
            return NONE;
        }
        bargain.seekOrders(trade, now, buyer, n);
        return what == 0 ? bargain.bestWorth : bargain.bestOrder;
    }

    public int raises(int n, int what) {
        if (!trade.hasCity() || n < 1 || n > MOST_AHEAD || what < 0 || what > 1) {
            return NONE;
        }
        outlook.seekRate(trade, now, n);
        return what == 0 ? outlook.best : outlook.reached;
    }

    public int selling(int thing, int what) {
        if (!trade.isThing(thing) || now.sold[thing] == 1 || what < 0 || what > 1) {
            return NONE;
        }
        outlook.seekWeight(trade, now, thing);
        return what == 0 ? outlook.best : outlook.reached;
    }

    public int seen(int n, int v, boolean more) {
        if (!trade.hasCity() || n < 1 || n > MOST_AHEAD || v < 0 || v > 999 || guess.seenCount >= MOST_SEEN) {
            return NONE;
        }
        return guess.noteSeen(n, v, more);
    }

    public int desires(int buyer, int i) {
        if (!trade.isBuyer(buyer) || i < NONE || i >= DESIRES) {
            return NONE;
        }
        guess.foretell(trade, buyer, guess.latestSeen());
        return nthOrCount(guess.fitting(), i);
    }

    /** How many bits are set, if i is NONE, else the i-th of these. */
    private int nthOrCount(int bits, int i) {
        if (i == NONE) {
            return Integer.bitCount(bits);
        }
        int left = i;
        for (int bit = 0; bit < 32; bit++) {
            if ((bits >> bit & 1) == 0) {
                continue;
            }
            if (left == 0) {
                return bit;
            }
            left--;
        }
        return NONE;
    }

    public int ask(int buyer) {
        if (!trade.isBuyer(buyer)) {
            return NONE;
        }
        guess.foretell(trade, buyer, MOST_AHEAD);
        return guess.hoursToAsk();
    }

    public int game(int buyer, int thing, int x, int y, int what) {
        if (!canDeal(buyer, thing) || x < 0 || x > 3 || y < 0 || y > 2 || what < 0 || what > 1) {
            return HIDDEN;
        }
        bargain.sitDown(trade, now, buyer, thing);
        return what == 0 ? bargain.sellerHas(x, y) : bargain.buyerHas(x, y);
    }

    public int rests(int buyer, int thing, int i) {
        if (!canDeal(buyer, thing) || i < NONE) {
            return NONE;
        }
        bargain.sitDown(trade, now, buyer, thing);
        return bargain.nthRest(i);
    }

    private boolean canDeal(int buyer, int thing) {
        return trade.isBuyer(buyer) && trade.isThing(thing) && now.sold[thing] == 0;
    }

    public int odds(int n, int v, int chance) {
        if (!trade.hasCity() || n < 0 || n > 6 || v < 0 || v > 999 || chance < 0 || chance > 100) {
            return NONE;
        }
        return outlook.partsReaching(trade, now, n, 1000000000, v, chance);
    }

    public int shares(int buyer, int c) {
        if (!trade.isBuyer(buyer) || c < 0 || c > 999) {
            return NONE;
        }
        int whole = now.dueOfAll();
        return whole == 0 ? 0 : c * now.dueOf(buyer) / whole;
    }

    // ---- the whole

    public int all(int what) {
        if (!trade.hasCity()) {
            return HIDDEN;
        }
        switch (what) {
            case 0:
            case 1:
            case 2:
            case 3:
                return firstWithMost(what, trade.city.buyers);
            case 4:
            case 5:
            case 12:
                return firstWithMost(what, trade.city.things);
            case 6:
                return now.holders();
            case 7:
                return freeThings();
            case 8:
                return soldThings();
            case 9:
                return afraid();
            case 10:
                return now.dueOfAll();
            case 11:
                return now.away;
            default:
                return HIDDEN;
        }
    }

    private int firstWithMost(int what, int among) {
        int first = 0;
        int most = measure(what, 0);
        for (int i = 1; i < among; i++) {
            int measured = measure(what, i);
            if (measured > most) {
                most = measured;
                first = i;
            }
        }
        return first;
    }

    private int measure(int what, int i) {
        switch (what) {
            case 0:
                return now.purse[i];
            case 1:
                return now.dueOf(i);
            case 2:
                return trade.city.nerveOf(i);
            case 3:
                return now.desire[i];
            case 4:
                return trade.city.priceOf(i);
            case 5:
                return now.weight[i];
            default:
                return likingOfAll(i);
        }
    }

    private int likingOfAll(int thing) {
        int sum = 0;
        for (int b = 0; b < trade.city.buyers; b++) {
            sum += trade.liked(now, b, thing);
        }
        return sum;
    }

    private int freeThings() {
        int bits = 0;
        for (int t = 0; t < trade.city.things; t++) {
            if (now.owner[t] == NONE) {
                bits |= 1 << t;
            }
        }
        return bits;
    }

    private int soldThings() {
        int bits = 0;
        for (int t = 0; t < trade.city.things; t++) {
            bits |= now.sold[t] << t;
        }
        return bits;
    }

    private int afraid() {
        int bits = 0;
        for (int b = 0; b < trade.city.buyers; b++) {
            if (trade.isAfraid(now, b)) {
                bits |= 1 << b;
            }
        }
        return bits;
    }

    public int image() {
        if (!trade.hasCity()) {
            return NONE;
        }
        image.copyFrom(now);
        imageKept = true;
        return now.hour;
    }

    public int back() {
        if (!imageKept) {
            return NONE;
        }
        now.copyFrom(image);
        history.forget();
        return now.hour;
    }

    public int count(int what) {
        switch (what) {
            case 0:
                return trade.city.things;
            case 1:
                return trade.city.buyers;
            case 2:
                return lawCount;
            case 3:
                return dayCount;
            case 4:
                return tape.length;
            case 5:
                return lawHolding;
            case 6:
                return now.hour;
            case 7:
                return now.rate;
            case 8:
                return now.treasury;
            case 9:
                return now.billCount;
            case 10:
                return tempted;
            case 11:
                return guess.seenCount;
            case 12:
                return now.logLength;
            case 13:
                return history.count;
            default:
                return HIDDEN;
        }
    }

    /** The bytes that were fed, and where a reader of them stands. */
    private static final class Tape {
        static final int END = 0;

        final int[] bytes = new int[MOST_BYTES];
        int length = 0;
        int at = 0;
        int value = 0;

        int bytesIn(int number) {
            int n = 0;
            for (int shift = 24; shift >= 0; shift -= 8) {
                if ((number >>> shift & 255) != 0) {
                    n++;
                }
            }
            return n;
        }

        void add(int number) {
            for (int shift = 24; shift >= 0; shift -= 8) {
                int next = number >>> shift & 255;
                if (next != 0 && length < MOST_BYTES) {
                    bytes[length] = next;
                    length++;
                }
            }
        }

        /** The next sign; the reader stands at it, behind all blanks, or at the end. */
        int sign() {
            while (at < length && bytes[at] == ' ') {
                at++;
            }
            return at < length ? bytes[at] : END;
        }

        boolean passes(int sign) {
            if (sign() != sign) {
                return false;
            }
            at++;
            return true;
        }

        boolean atDigit() {
            return at < length && bytes[at] >= '0' && bytes[at] <= '9';
        }

        boolean passesDigit() {
            sign();
            if (!atDigit()) {
                return false;
            }
            value = bytes[at] - '0';
            at++;
            return true;
        }

        /** A number of so many digits at most; one digit more is wrong whatever stands ahead of it. */
        boolean passesNumber(int digits) {
            sign();
            if (!atDigit()) {
                return false;
            }
            value = 0;
            for (int n = 0; n < digits && atDigit(); n++) {
                value = value * 10 + bytes[at] - '0';
                at++;
            }
            return !atDigit();
        }

        boolean passesNumberWithin(int low, int high) {
            if (!passesNumber(2)) {
                return false;
            }
            if (value < low || value > high) {
                at--;
                return false;
            }
            return true;
        }
    }

    /** A CITY as it was told. */
    private static final class City {
        static final int RULES = 4;
        static final int THING = 3;
        static final int BUYER = 4;
        static final int THING_ITEMS = RULES;
        static final int BUYER_ITEMS = RULES + THING;
        static final int MOST_CLAUSES = 1 + MOST_THINGS + MOST_BUYERS;
        static final char[] LETTERS = {'r', 'h', 'y', 'i', 'p', 'w', 's', 'm', 'd', 'n', 'k'};
        static final int[] LOWEST = {0, 0, 2, 0, 1, 0, 0, 0, 0, 0, 0};
        static final int[] HIGHEST = {8, 9, 30, 30, 99, 9, 3, 99, 9, 9, 2};
        static final int[] USUAL = {2, 2, 12, 5, 20, 2, 0, 30, 5, 4, 0};

        final int[] rules = new int[RULES];
        final int[] thingRows = new int[MOST_THINGS * THING];
        final int[] buyerRows = new int[MOST_BUYERS * BUYER];
        int things = 0;
        int buyers = 0;
        boolean ruled = false;

        /** The FAULT of the TAPE; NONE: this is the CITY that it tells. */
        int read(Tape tape) {
            things = 0;
            buyers = 0;
            ruled = false;
            System.arraycopy(USUAL, 0, rules, 0, RULES);
            tape.at = 0;
            for (int n = 0; n <= MOST_CLAUSES; n++) {
                if (!clauseReads(tape)) {
                    return tape.at;
                }
                if (tape.sign() == Tape.END) {
                    return things > 0 && buyers > 0 ? NONE : tape.at;
                }
                if (!tape.passes(';')) {
                    return tape.at;
                }
            }
            return tape.at;
        }

        private boolean clauseReads(Tape tape) {
            if (!ruled && tape.passes('s')) {
                ruled = true;
                return itemsRead(tape, rules, 0, 0, RULES);
            }
            if (things < MOST_THINGS && tape.passes('t')) {
                things++;
                return itemsRead(tape, thingRows, (things - 1) * THING, THING_ITEMS, THING);
            }
            if (buyers < MOST_BUYERS && tape.passes('b')) {
                buyers++;
                return itemsRead(tape, buyerRows, (buyers - 1) * BUYER, BUYER_ITEMS, BUYER);
            }
            tape.sign();
            return false;
        }

        private boolean itemsRead(Tape tape, int[] row, int start, int first, int items) {
            System.arraycopy(USUAL, first, row, start, items);
            int there = 0;
            for (int n = 0; n <= items; n++) {
                int sign = tape.sign();
                if (sign == Tape.END || sign == ';') {
                    return true;
                }
                int item = itemOf(sign, first, items);
                if (item == NONE || (there >> item & 1) == 1) {
                    return false;
                }
                there |= 1 << item;
                tape.at++;
                if (!tape.passesNumberWithin(LOWEST[first + item], HIGHEST[first + item])) {
                    return false;
                }
                row[start + item] = tape.value;
            }
            return false;
        }

        private int itemOf(int sign, int first, int items) {
            for (int i = 0; i < items; i++) {
                if (LETTERS[first + i] == sign) {
                    return i;
                }
            }
            return NONE;
        }

        int rateTold() {
            return rules[0];
        }

        int hoursToComeBack() {
            return rules[1];
        }

        int michaelmas() {
            return rules[2];
        }

        int income() {
            return rules[3];
        }

        int priceOf(int thing) {
            return thingRows[thing * THING];
        }

        int weightTold(int thing) {
            return thingRows[thing * THING + 1];
        }

        int shopOf(int thing) {
            return thingRows[thing * THING + 2];
        }

        int purseTold(int buyer) {
            return buyerRows[buyer * BUYER];
        }

        int desireTold(int buyer) {
            return buyerRows[buyer * BUYER + 1];
        }

        int nerveOf(int buyer) {
            return buyerRows[buyer * BUYER + 2];
        }

        int kindOf(int buyer) {
            return buyerRows[buyer * BUYER + 3];
        }
    }

    /**
     * A LAW, kept as a row of steps for a stack: 0 and above a number, -1 .. -6 a letter, a sign below 0
     * what is done by that sign; behind '?' the place of the next CLAUSE; ';' ends a CLAUSE with its SUM.
     */
    private static final class Law {
        static final int MOST_NESTED = 6;
        static final int MOST_NUMBER = 1000000;
        static final char[] LETTERS = {'p', 'w', 'd', 'm', 's', 'h'};

        final int[] code = new int[MOST_BYTES];
        // 18 is the deepest that six within one another can ask for.
        final int[] stack = new int[32];
        int length = 0;

        /** The FAULT of the TAPE; NONE: this is the LAW that it tells. */
        int read(Tape tape) {
            length = 0;
            tape.at = 0;
            for (int n = 0; n < MOST_BYTES; n++) {
                if (!clauseReads(tape)) {
                    return tape.at;
                }
                if (tape.sign() == Tape.END) {
                    return NONE;
                }
                if (!tape.passes(';')) {
                    return tape.at;
                }
            }
            return tape.at;
        }

        private boolean clauseReads(Tape tape) {
            if (!tape.passes('y') || !tape.passes(':')) {
                return false;
            }
            int sign = tape.sign();
            if (sign == '!' || sign == '(') {
                return conditionReads(tape, 0) && answerReads(tape);
            }
            if (!sumReads(tape, 0)) {
                return false;
            }
            if (!isComparison(tape.sign())) {
                put(-';');
                return true;
            }
            // The SUM was the beginning of a CONDITION.
            return comparisonReads(tape, 0) && truthGoesOn(tape, 0) && conditionGoesOn(tape, 0) && answerReads(tape);
        }

        private boolean answerReads(Tape tape) {
            if (!tape.passes('?')) {
                return false;
            }
            put(-'?');
            int place = length;
            put(0);
            if (!sumReads(tape, 0)) {
                return false;
            }
            put(-';');
            if (place < MOST_BYTES) {
                code[place] = length;
            }
            return true;
        }

        private boolean conditionReads(Tape tape, int depth) {
            return truthReads(tape, depth) && conditionGoesOn(tape, depth);
        }

        private boolean conditionGoesOn(Tape tape, int depth) {
            for (int n = 0; n < MOST_BYTES; n++) {
                if (!tape.passes('|')) {
                    return true;
                }
                if (!truthReads(tape, depth)) {
                    return false;
                }
                put(-'|');
            }
            return false;
        }

        private boolean truthReads(Tape tape, int depth) {
            return unitReads(tape, depth) && truthGoesOn(tape, depth);
        }

        private boolean truthGoesOn(Tape tape, int depth) {
            for (int n = 0; n < MOST_BYTES; n++) {
                if (!tape.passes('&')) {
                    return true;
                }
                if (!unitReads(tape, depth)) {
                    return false;
                }
                put(-'&');
            }
            return false;
        }

        private boolean unitReads(Tape tape, int depth) {
            int sign = tape.sign();
            if (sign != '!' && sign != '(') {
                return sumReads(tape, depth) && comparisonReads(tape, depth);
            }
            if (depth >= MOST_NESTED) {
                return false;
            }
            tape.at++;
            if (sign == '(') {
                return conditionReads(tape, depth + 1) && tape.passes(')');
            }
            if (!unitReads(tape, depth + 1)) {
                return false;
            }
            put(-'!');
            return true;
        }

        private boolean comparisonReads(Tape tape, int depth) {
            int sign = tape.sign();
            if (!isComparison(sign)) {
                return false;
            }
            tape.at++;
            if (!sumReads(tape, depth)) {
                return false;
            }
            put(-sign);
            return true;
        }

        private boolean isComparison(int sign) {
            return sign == '=' || sign == '<' || sign == '>';
        }

        private boolean sumReads(Tape tape, int depth) {
            if (!termReads(tape, depth)) {
                return false;
            }
            for (int n = 0; n < MOST_BYTES; n++) {
                int sign = tape.sign();
                if (sign != '+' && sign != '-') {
                    return true;
                }
                tape.at++;
                if (!termReads(tape, depth)) {
                    return false;
                }
                put(-sign);
            }
            return false;
        }

        private boolean termReads(Tape tape, int depth) {
            if (!atomReads(tape, depth)) {
                return false;
            }
            for (int n = 0; n < MOST_BYTES; n++) {
                int sign = tape.sign();
                if (sign != '*' && sign != '/') {
                    return true;
                }
                tape.at++;
                if (!atomReads(tape, depth)) {
                    return false;
                }
                put(-sign);
            }
            return false;
        }

        private boolean atomReads(Tape tape, int depth) {
            int sign = tape.sign();
            if (sign == '[') {
                if (depth >= MOST_NESTED) {
                    return false;
                }
                tape.at++;
                return sumReads(tape, depth + 1) && tape.passes(']');
            }
            for (int i = 0; i < LETTERS.length; i++) {
                if (LETTERS[i] == sign) {
                    tape.at++;
                    put(-1 - i);
                    return true;
                }
            }
            if (!tape.passesNumber(4)) {
                return false;
            }
            put(tape.value);
            return true;
        }

        private void put(int step) {
            if (length < MOST_BYTES) {
                code[length] = step;
                length++;
            }
        }

        /** WORTH, by what the letters (in the order of LETTERS) stand for. */
        int worth(int[] letters) {
            int top = 0;
            int from = 0;
            for (int i = 0; i < length; i++) {
                if (i < from) {
                    continue;
                }
                int step = code[i];
                if (step >= -LETTERS.length) {
                    if (top >= stack.length) {
                        return 0;
                    }
                    stack[top] = step >= 0 ? step : letters[-1 - step];
                    top++;
                    continue;
                }
                if (top < 1) {
                    return 0;
                }
                if (step == -';') {
                    return stack[top - 1];
                }
                if (step == -'?') {
                    top--;
                    from = stack[top] == 0 && i + 1 < length ? code[i + 1] : i + 2;
                } else if (step == -'!') {
                    stack[top - 1] = 1 - stack[top - 1];
                } else if (top >= 2) {
                    top--;
                    stack[top - 1] = joined(-step, stack[top - 1], stack[top]);
                }
            }
            return 0;
        }

        private int joined(int sign, int a, int b) {
            long result = 0;
            switch (sign) {
                case '+':
                    result = (long) a + b;
                    break;
                case '-':
                    result = (long) a - b;
                    break;
                case '*':
                    result = (long) a * b;
                    break;
                case '/':
                    result = b == 0 ? 0 : a / b;
                    break;
                case '=':
                    result = a == b ? 1 : 0;
                    break;
                case '<':
                    result = a < b ? 1 : 0;
                    break;
                case '>':
                    result = a > b ? 1 : 0;
                    break;
                case '&':
                    result = a & b;
                    break;
                default:
                    result = a | b;
                    break;
            }
            if (result > MOST_NUMBER) {
                return MOST_NUMBER;
            }
            return result < -MOST_NUMBER ? -MOST_NUMBER : (int) result;
        }
    }

    /** A DAY: its STEPS in rows of three: what, a digit, a digit (NONE where there is none). */
    private static final class Day {
        static final int MOST_STEPS = 16;
        static final int ROW = 3;
        static final int PICK = 0;
        static final int BACK = 1;
        static final int HAND = 2;
        static final int BUY = 3;
        static final int HOUR = 4;
        static final char[] LETTERS = {'p', 'b', 'g', 'y', 'h'};
        static final int[] DIGITS = {2, 1, 2, 1, 0};

        final int[] rows = new int[MOST_STEPS * ROW];
        int length = 0;

        /** The FAULT of the TAPE; NONE: this is the DAY that it tells. */
        int read(Tape tape) {
            length = 0;
            tape.at = 0;
            return stepsRead(tape) ? NONE : tape.at;
        }

        private boolean stepsRead(Tape tape) {
            for (int n = 0; n < MOST_STEPS; n++) {
                if (!stepReads(tape, n * ROW)) {
                    return false;
                }
                length = n + 1;
                int sign = tape.sign();
                if (sign == Tape.END) {
                    return true;
                }
                if (sign != ';' || length == MOST_STEPS) {
                    return false;
                }
                tape.at++;
            }
            return false;
        }

        private boolean stepReads(Tape tape, int row) {
            int what = NONE;
            int sign = tape.sign();
            for (int i = 0; i < LETTERS.length; i++) {
                if (LETTERS[i] == sign) {
                    what = i;
                }
            }
            if (what == NONE) {
                return false;
            }
            tape.at++;
            rows[row] = what;
            rows[row + 1] = NONE;
            rows[row + 2] = NONE;
            for (int i = 1; i <= DIGITS[what]; i++) {
                if (!tape.passesDigit()) {
                    return false;
                }
                rows[row + i] = tape.value;
            }
            return true;
        }

        int part(int step, int what) {
            return rows[step * ROW + what];
        }
    }

    /** How a CITY stands: all that ACTS and HOURS change. */
    private static final class State {
        // A BILL is a row: BUYER, THING, HOUR, what is due; the oldest first.
        static final int BILL_ROW = 4;
        // Of the LOG: HOLDERS, BILLS, TREASURY; the oldest first.
        static final int LOG_ROW = 3;

        final int[] owner = new int[MOST_THINGS];
        final int[] sold = new int[MOST_THINGS];
        final int[] held = new int[MOST_THINGS];
        final int[] weight = new int[MOST_THINGS];
        final int[] holds = new int[MOST_BUYERS];
        final int[] purse = new int[MOST_BUYERS];
        final int[] desire = new int[MOST_BUYERS];
        final int[] bills = new int[MOST_BILLS * BILL_ROW];
        final int[] log = new int[MOST_LOGGED * LOG_ROW];
        int billCount = 0;
        int logLength = 0;
        int rate = 0;
        int away = 0;
        int treasury = 0;
        int hour = 0;

        void beginAs(City city) {
            Arrays.fill(owner, NONE);
            Arrays.fill(sold, 0);
            Arrays.fill(held, 0);
            Arrays.fill(holds, NONE);
            for (int t = 0; t < city.things; t++) {
                weight[t] = city.weightTold(t);
            }
            for (int b = 0; b < city.buyers; b++) {
                purse[b] = city.purseTold(b);
                desire[b] = city.desireTold(b);
            }
            billCount = 0;
            logLength = 0;
            rate = city.rateTold();
            away = 0;
            treasury = 0;
            hour = 0;
        }

        void copyFrom(State other) {
            System.arraycopy(other.owner, 0, owner, 0, MOST_THINGS);
            System.arraycopy(other.sold, 0, sold, 0, MOST_THINGS);
            System.arraycopy(other.held, 0, held, 0, MOST_THINGS);
            System.arraycopy(other.weight, 0, weight, 0, MOST_THINGS);
            System.arraycopy(other.holds, 0, holds, 0, MOST_BUYERS);
            System.arraycopy(other.purse, 0, purse, 0, MOST_BUYERS);
            System.arraycopy(other.desire, 0, desire, 0, MOST_BUYERS);
            System.arraycopy(other.bills, 0, bills, 0, other.billCount * BILL_ROW);
            System.arraycopy(other.log, 0, log, 0, other.logLength * LOG_ROW);
            billCount = other.billCount;
            logLength = other.logLength;
            rate = other.rate;
            away = other.away;
            treasury = other.treasury;
            hour = other.hour;
        }

        int holders() {
            int bits = 0;
            for (int b = 0; b < MOST_BUYERS; b++) {
                if (holds[b] != NONE) {
                    bits |= 1 << b;
                }
            }
            return bits;
        }

        int dueOf(int buyer) {
            int sum = 0;
            for (int i = 0; i < billCount; i++) {
                if (bills[i * BILL_ROW] == buyer) {
                    sum += bills[i * BILL_ROW + 3];
                }
            }
            return sum;
        }

        int dueOfAll() {
            int sum = 0;
            for (int i = 0; i < billCount; i++) {
                sum += bills[i * BILL_ROW + 3];
            }
            return sum;
        }

        int billsOf(int buyer) {
            int n = 0;
            for (int i = 0; i < billCount; i++) {
                if (bills[i * BILL_ROW] == buyer) {
                    n++;
                }
            }
            return n;
        }

        /** Where the row of a BUYER's n-th BILL begins. */
        int billRow(int buyer, int n) {
            int left = n;
            for (int i = 0; i < billCount; i++) {
                if (bills[i * BILL_ROW] != buyer) {
                    continue;
                }
                if (left == 0) {
                    return i * BILL_ROW;
                }
                left--;
            }
            return NONE;
        }

        boolean hasBillFor(int buyer, int thing) {
            for (int i = 0; i < billCount; i++) {
                if (bills[i * BILL_ROW] == buyer && bills[i * BILL_ROW + 1] == thing) {
                    return true;
                }
            }
            return false;
        }

        void writeBill(int buyer, int thing, int due) {
            if (billCount >= MOST_BILLS) {
                System.arraycopy(bills, BILL_ROW, bills, 0, (MOST_BILLS - 1) * BILL_ROW);
                billCount = MOST_BILLS - 1;
            }
            int row = billCount * BILL_ROW;
            bills[row] = buyer;
            bills[row + 1] = thing;
            bills[row + 2] = hour;
            bills[row + 3] = due;
            billCount++;
        }

        /** How many of a BUYER's BILLS for a THING, written since then, were struck out. */
        int strikeBills(int buyer, int thing, int since) {
            int kept = 0;
            for (int i = 0; i < billCount; i++) {
                int row = i * BILL_ROW;
                if (bills[row] == buyer && bills[row + 1] == thing && bills[row + 2] >= since) {
                    continue;
                }
                System.arraycopy(bills, row, bills, kept * BILL_ROW, BILL_ROW);
                kept++;
            }
            int struck = billCount - kept;
            billCount = kept;
            return struck;
        }

        void writeLog() {
            if (logLength >= MOST_LOGGED) {
                System.arraycopy(log, LOG_ROW, log, 0, (MOST_LOGGED - 1) * LOG_ROW);
                logLength = MOST_LOGGED - 1;
            }
            int row = logLength * LOG_ROW;
            log[row] = holders();
            log[row + 1] = billCount;
            log[row + 2] = treasury;
            logLength++;
        }
    }

    /** What can be done in a CITY, to any STATE of it, and what it leads to. */
    private static final class Trade {
        static final int WITH_A_STICK = 1;
        static final int THIEF = 2;

        final int[] letters = new int[Law.LETTERS.length];
        City city = new City();
        Law law = null;

        boolean hasCity() {
            return city.things > 0;
        }

        boolean isThing(int thing) {
            return thing >= 0 && thing < city.things;
        }

        boolean isBuyer(int buyer) {
            return buyer >= 0 && buyer < city.buyers;
        }

        int liked(State state, int buyer, int thing) {
            int worth = 4 * state.desire[buyer] + state.weight[thing];
            if (law != null) {
                letters[0] = city.priceOf(thing);
                letters[1] = state.weight[thing];
                letters[2] = state.desire[buyer];
                letters[3] = state.purse[buyer];
                letters[4] = city.shopOf(thing);
                letters[5] = state.hour % 24;
                worth = law.worth(letters);
            }
            return Math.max(0, Math.min(99, worth));
        }

        /** What would be due, did he put it BACK now: the same whether the CLERK looks AWAY or not. */
        int dueIfPutBack(State state, int buyer, int thing) {
            int kind = city.kindOf(buyer);
            if (kind == THIEF) {
                return 0;
            }
            int due = city.priceOf(thing) * state.rate / 8;
            return kind == WITH_A_STICK ? due / 2 : due;
        }

        private boolean looksAway(State state, int shop) {
            return (state.away >> shop & 1) == 1;
        }

        boolean isAfraid(State state, int buyer) {
            return state.dueOf(buyer) > 6 * city.nerveOf(buyer);
        }

        // Why an ACT can't be (its sign of the STATUS); NONE: it can.

        int whyNotPick(State state, int buyer, int thing) {
            if (!isBuyer(buyer) || !isThing(thing)) {
                return NO_SUCH;
            }
            if (state.owner[thing] != NONE) {
                return NOT_SO;
            }
            return state.holds[buyer] != NONE ? HOLDS_ONE : NONE;
        }

        int whyNotPutBack(State state, int buyer) {
            if (!isBuyer(buyer)) {
                return NO_SUCH;
            }
            return state.holds[buyer] == NONE ? NOT_SO : NONE;
        }

        int whyNotHand(State state, int buyer, int other) {
            if (!isBuyer(buyer) || !isBuyer(other)) {
                return NO_SUCH;
            }
            if (buyer == other) {
                return OUT_OF_BOUNDS;
            }
            if (state.holds[buyer] == NONE) {
                return NOT_SO;
            }
            return state.holds[other] != NONE ? HOLDS_ONE : NONE;
        }

        int whyNotBuy(State state, int buyer) {
            int why = whyNotPutBack(state, buyer);
            if (why != NONE) {
                return why;
            }
            return state.purse[buyer] < city.priceOf(state.holds[buyer]) ? TOO_LITTLE : NONE;
        }

        int whyNotHour(State state) {
            if (!hasCity()) {
                return NO_SUCH;
            }
            return state.hour >= LAST_HOUR ? TOO_LATE : NONE;
        }

        int whyNotStep(State state, Day day, int step) {
            int first = day.part(step, 1);
            switch (day.part(step, 0)) {
                case Day.PICK:
                    return whyNotPick(state, first, day.part(step, 2));
                case Day.BACK:
                    return whyNotPutBack(state, first);
                case Day.HAND:
                    return whyNotHand(state, first, day.part(step, 2));
                case Day.BUY:
                    return whyNotBuy(state, first);
                default:
                    return whyNotHour(state);
            }
        }

        // ACTS that can be.

        void makeStep(State state, Day day, int step) {
            int first = day.part(step, 1);
            switch (day.part(step, 0)) {
                case Day.PICK:
                    pickUp(state, first, day.part(step, 2));
                    break;
                case Day.BACK:
                    layBack(state, first);
                    break;
                case Day.HAND:
                    passOn(state, first, day.part(step, 2));
                    break;
                case Day.BUY:
                    purchase(state, first);
                    break;
                default:
                    passHour(state);
                    break;
            }
        }

        void pickUp(State state, int buyer, int thing) {
            state.owner[thing] = buyer;
            state.held[thing] = 0;
            state.holds[buyer] = thing;
        }

        /** Answers what is due by the BILL that is written (0: none). */
        int layBack(State state, int buyer) {
            int thing = state.holds[buyer];
            state.owner[thing] = NONE;
            state.held[thing] = 0;
            state.holds[buyer] = NONE;
            int due = looksAway(state, city.shopOf(thing)) ? 0 : dueIfPutBack(state, buyer, thing);
            if (due > 0) {
                state.writeBill(buyer, thing, due);
            }
            return due;
        }

        /** Answers the THING. */
        int passOn(State state, int buyer, int other) {
            int thing = state.holds[buyer];
            state.owner[thing] = other;
            state.holds[other] = thing;
            state.holds[buyer] = NONE;
            return thing;
        }

        /** Answers how many BILLS are struck out. */
        int purchase(State state, int buyer) {
            int thing = state.holds[buyer];
            state.purse[buyer] -= city.priceOf(thing);
            state.sold[thing] = 1;
            state.held[thing] = 0;
            state.holds[buyer] = NONE;
            return state.strikeBills(buyer, thing, state.hour - city.hoursToComeBack());
        }

        void passHour(State state) {
            for (int b = 0; b < city.buyers; b++) {
                if (state.holds[b] != NONE) {
                    decide(state, b);
                }
            }
            for (int b = 0; b < city.buyers; b++) {
                if (state.holds[b] == NONE && !isAfraid(state, b)) {
                    pickFavourite(state, b);
                }
            }
            state.hour++;
            if (city.michaelmas() > 0 && state.hour % city.michaelmas() == 0) {
                keepMichaelmas(state);
            }
            state.writeLog();
        }

        private void decide(State state, int buyer) {
            int thing = state.holds[buyer];
            int price = city.priceOf(thing);
            if (state.purse[buyer] >= price && liked(state, buyer, thing) >= price) {
                purchase(state, buyer);
            } else if (state.held[thing] > state.weight[thing] / 3) {
                layBack(state, buyer);
            } else {
                state.held[thing]++;
            }
        }

        private void pickFavourite(State state, int buyer) {
            int favourite = NONE;
            int most = 0;
            for (int t = 0; t < city.things; t++) {
                if (state.owner[t] != NONE || state.hasBillFor(buyer, t)) {
                    continue;
                }
                int liking = liked(state, buyer, t);
                if (liking > most) {
                    most = liking;
                    favourite = t;
                }
            }
            if (favourite != NONE) {
                pickUp(state, buyer, favourite);
            }
        }

        private void keepMichaelmas(State state) {
            for (int b = 0; b < city.buyers; b++) {
                int paid = Math.min(state.dueOf(b), state.purse[b]);
                state.treasury = Math.min(MOST_TREASURY, state.treasury + paid);
                state.purse[b] = Math.min(MOST_PURSE, state.purse[b] - paid + city.income());
            }
            state.billCount = 0;
        }
    }

    /** How it was ahead of each of the latest ACTS. */
    private static final class History {
        final State[] kept = new State[MOST_ACTS];
        int first = 0;
        int count = 0;

        History() {
            for (int i = 0; i < kept.length; i++) {
                kept[i] = new State();
            }
        }

        void keep(State state) {
            kept[(first + count) % MOST_ACTS].copyFrom(state);
            if (count < MOST_ACTS) {
                count++;
            } else {
                first = (first + 1) % MOST_ACTS;
            }
        }

        void restore(State state) {
            if (count > 0) {
                count--;
                state.copyFrom(kept[(first + count) % MOST_ACTS]);
            }
        }

        void forget() {
            first = 0;
            count = 0;
        }
    }

    /** What HOURS would bring, apart from how it is. */
    private static final class Outlook {
        static final int MOST_BRANCHED = 6;
        static final int MOST_TO_SELL = 40;
        static final int ALL_SHOPS = (1 << MOST_SHOPS) - 1;

        final State ahead = new State();
        // By how many HOURS are left.
        final State[] branches = new State[MOST_BRANCHED + 1];
        int best = NONE;
        int reached = NONE;

        Outlook() {
            for (int i = 0; i < branches.length; i++) {
                branches[i] = new State();
            }
        }

        State startingAt(State state) {
            ahead.copyFrom(state);
            return ahead;
        }

        State behind(Trade trade, State state, int hours) {
            ahead.copyFrom(state);
            for (int i = 0; i < hours; i++) {
                trade.passHour(ahead);
            }
            return ahead;
        }

        /** best: the RATE by which TREASURY is most; reached: that TREASURY. */
        void seekRate(Trade trade, State state, int hours) {
            best = NONE;
            reached = NONE;
            for (int rate = 0; rate <= 8; rate++) {
                ahead.copyFrom(state);
                ahead.rate = rate;
                for (int i = 0; i < hours; i++) {
                    trade.passHour(ahead);
                }
                if (ahead.treasury > reached) {
                    best = rate;
                    reached = ahead.treasury;
                }
            }
        }

        /** best: the WEIGHT by which the THING is SOLD soonest; reached: in how many HOURS. */
        void seekWeight(Trade trade, State state, int thing) {
            best = NONE;
            reached = NONE;
            int most = MOST_TO_SELL;
            for (int weight = 0; weight <= 9; weight++) {
                int hours = hoursToSell(trade, state, thing, weight, most);
                if (hours != NONE) {
                    best = weight;
                    reached = hours;
                    most = hours - 1;
                }
            }
        }

        private int hoursToSell(Trade trade, State state, int thing, int weight, int most) {
            ahead.copyFrom(state);
            ahead.weight[thing] = weight;
            for (int hours = 1; hours <= most; hours++) {
                trade.passHour(ahead);
                if (ahead.sold[thing] == 1) {
                    return hours;
                }
            }
            return NONE;
        }

        /** Of so many parts those by which TREASURY and all that is DUE are v or more behind the HOURS. */
        int partsReaching(Trade trade, State from, int hours, int parts, int v, int chance) {
            if (hours <= 0 || hours >= branches.length) {
                return from.treasury + from.dueOfAll() >= v ? parts : 0;
            }
            State next = branches[hours];
            int away = (int) ((long) parts * chance / 100);
            int sum = 0;
            if (away > 0) {
                next.copyFrom(from);
                next.away = ALL_SHOPS;
                trade.passHour(next);
                next.away = from.away;
                sum += partsReaching(trade, next, hours - 1, away, v, chance);
            }
            if (parts > away) {
                next.copyFrom(from);
                trade.passHour(next);
                sum += partsReaching(trade, next, hours - 1, parts - away, v, chance);
            }
            return sum;
        }
    }

    /** What was SEEN, and which DESIRE a BUYER may have had by it. */
    private static final class Guess {
        static final int ROW = MOST_AHEAD + 1;

        final State ahead = new State();
        final int[] seenHours = new int[MOST_SEEN];
        final int[] seenValue = new int[MOST_SEEN];
        final boolean[] seenMore = new boolean[MOST_SEEN];
        // TREASURY and all that is DUE, by DESIRE and HOURS.
        final int[] totals = new int[DESIRES * ROW];
        int seenCount = 0;

        void forget() {
            seenCount = 0;
        }

        int noteSeen(int hours, int value, boolean more) {
            if (seenCount < MOST_SEEN) {
                seenHours[seenCount] = hours;
                seenValue[seenCount] = value;
                seenMore[seenCount] = more;
                seenCount++;
            }
            return seenCount;
        }

        int latestSeen() {
            int latest = 0;
            for (int i = 0; i < seenCount; i++) {
                latest = Math.max(latest, seenHours[i]);
            }
            return latest;
        }

        /** Fills totals for so many HOURS, were this BUYER told with each DESIRE in turn. */
        void foretell(Trade trade, int buyer, int hours) {
            for (int desire = 0; desire < DESIRES; desire++) {
                ahead.beginAs(trade.city);
                ahead.desire[buyer] = desire;
                for (int n = 1; n <= hours && n < ROW; n++) {
                    trade.passHour(ahead);
                    totals[desire * ROW + n] = ahead.treasury + ahead.dueOfAll();
                }
            }
        }

        /** The DESIRES (bits) that fit all that was SEEN, by totals. */
        int fitting() {
            int bits = 0;
            for (int desire = 0; desire < DESIRES; desire++) {
                if (fits(desire)) {
                    bits |= 1 << desire;
                }
            }
            return bits;
        }

        private boolean fits(int desire) {
            for (int i = 0; i < seenCount; i++) {
                if (totals[desire * ROW + seenHours[i]] >= seenValue[i] != seenMore[i]) {
                    return false;
                }
            }
            return true;
        }

        int hoursToAsk() {
            int bits = fitting();
            if (bits == 0) {
                return NONE;
            }
            int best = NONE;
            int fewest = DESIRES + 1;
            for (int n = 1; n <= MOST_AHEAD; n++) {
                int agreeing = mostAgreeing(bits, n);
                if (agreeing < fewest) {
                    fewest = agreeing;
                    best = n;
                }
            }
            return best;
        }

        private int mostAgreeing(int bits, int hours) {
            int most = 0;
            for (int i = 0; i < DESIRES; i++) {
                int agreeing = 0;
                for (int j = 0; j < DESIRES; j++) {
                    if ((bits >> i & bits >> j & 1) == 1 && totals[i * ROW + hours] == totals[j * ROW + hours]) {
                        agreeing++;
                    }
                }
                most = Math.max(most, agreeing);
            }
            return most;
        }
    }

    /** What a BUYER does best to touch, and what he and the seller have by what they do. */
    private static final class Bargain {
        static final int MOST_ORDERED = 4;
        static final int OFFERS = 4;
        static final int ANSWERS = 3;

        final int[] chance = new int[MOST_THINGS];
        final int[] liking = new int[MOST_THINGS];
        final int[] due = new int[MOST_THINGS];
        final int[] order = new int[MOST_ORDERED];
        int bestWorth = 0;
        int bestOrder = 1;
        int dealtThing = 0;
        int dealtPrice = 0;

        void seekOrders(Trade trade, State state, int buyer, int longest) {
            int free = 0;
            for (int t = 0; t < trade.city.things; t++) {
                lookAt(trade, state, buyer, t);
                if (state.owner[t] == NONE) {
                    free |= 1 << t;
                }
            }
            bestWorth = 0;
            bestOrder = 1;
            // Numbers rise this way, so that the least of several comes first.
            for (int length = 1; length <= longest; length++) {
                tryOrders(length, 0, free, 1);
            }
        }

        private void lookAt(Trade trade, State state, int buyer, int thing) {
            chance[thing] = 10 + 8 * state.weight[thing];
            liking[thing] = trade.liked(state, buyer, thing);
            due[thing] = trade.dueIfPutBack(state, buyer, thing);
        }

        private void tryOrders(int length, int placed, int free, int number) {
            if (placed >= length || placed >= MOST_ORDERED) {
                weigh(placed, number);
                return;
            }
            for (int t = 0; t < MOST_THINGS; t++) {
                if ((free >> t & 1) == 1) {
                    order[placed] = t;
                    tryOrders(length, placed + 1, free & ~(1 << t), number * 10 + t);
                }
            }
        }

        private void weigh(int length, int number) {
            int worth = 0;
            for (int i = length - 1; i >= 0; i--) {
                int t = order[i];
                worth = (chance[t] * 1000 * liking[t] + (100 - chance[t]) * (worth - 1000 * due[t])) / 100;
            }
            if (worth > bestWorth) {
                bestWorth = worth;
                bestOrder = number;
            }
        }

        /** The BUYER and the THING of which sellerHas, buyerHas and nthRest tell then. */
        void sitDown(Trade trade, State state, int buyer, int thing) {
            dealtThing = thing;
            dealtPrice = trade.city.priceOf(thing);
            lookAt(trade, state, buyer, thing);
        }

        int sellerHas(int x, int y) {
            if (y == 1) {
                return dealtPrice - dealtPrice * x / 10;
            }
            return y == 2 ? 1 : 0;
        }

        int buyerHas(int x, int y) {
            if (y == 1) {
                return liking[dealtThing] - sellerHas(x, y);
            }
            return y == 2 ? liking[dealtThing] / 4 - due[dealtThing] : 0;
        }

        /** How many RESTS, if i is NONE, else the i-th. */
        int nthRest(int i) {
            int n = 0;
            for (int x = 0; x < OFFERS; x++) {
                for (int y = 0; y < ANSWERS; y++) {
                    if (!isRest(x, y)) {
                        continue;
                    }
                    if (n == i) {
                        return 10 * x + y;
                    }
                    n++;
                }
            }
            return i == NONE ? n : NONE;
        }

        private boolean isRest(int x, int y) {
            for (int other = 0; other < OFFERS; other++) {
                if (sellerHas(other, y) > sellerHas(x, y)) {
                    return false;
                }
            }
            for (int other = 0; other < ANSWERS; other++) {
                if (buyerHas(x, other) > buyerHas(x, y)) {
                    return false;
                }
            }
            return true;
        }
    }
}
