import java.util.ArrayDeque;
import java.util.ArrayList;
import java.util.Arrays;
import java.util.Deque;
import java.util.HashMap;
import java.util.List;
import java.util.Map;
import java.util.NoSuchElementException;
import java.util.TreeMap;

/**
 * The document once more, written from its words with the Java library and without regard to speed, to be held
 * against the class by random calls.
 */
final class Model {
    static final int NONE = -1;
    static final int HIDDEN = -1000000;

    record Thing(int price, int weight, int shop) { }

    record Buyer(int purse, int desire, int nerve, int kind) { }

    record Bill(int buyer, int thing, int hour, int due) { }

    record Seen(int n, int v, boolean more) { }

    static final class City {
        int rate = 2;
        int back = 2;
        int michaelmas = 12;
        int income = 5;
        List<Thing> things = new ArrayList<>();
        List<Buyer> buyers = new ArrayList<>();
    }

    final class World {
        List<Thing> things = new ArrayList<>();
        List<Buyer> buyers = new ArrayList<>();
        Map<Integer, Integer> holder = new TreeMap<>();
        Map<Integer, Integer> soldTo = new TreeMap<>();
        Map<Integer, Integer> heldFor = new TreeMap<>();
        List<Bill> bills = new ArrayList<>();
        boolean[] away = new boolean[4];
        int rate;
        int treasury;
        int hour;
        List<int[]> log = new ArrayList<>();

        World copy() {
            World w = new World();
            w.things.addAll(things);
            w.buyers.addAll(buyers);
            w.holder.putAll(holder);
            w.soldTo.putAll(soldTo);
            w.heldFor.putAll(heldFor);
            w.bills.addAll(bills);
            w.away = away.clone();
            w.rate = rate;
            w.treasury = treasury;
            w.hour = hour;
            w.log.addAll(log);
            return w;
        }

        int holding(int b) {
            for (Map.Entry<Integer, Integer> e : holder.entrySet()) {
                if (e.getValue() == b) {
                    return e.getKey();
                }
            }
            return NONE;
        }

        boolean free(int t) {
            return !holder.containsKey(t) && !soldTo.containsKey(t);
        }

        int due(int b) {
            return bills.stream().filter(x -> x.buyer == b).mapToInt(Bill::due).sum();
        }

        int dueAll() {
            return bills.stream().mapToInt(Bill::due).sum();
        }

        int liking(int b, int t) {
            Buyer buyer = buyers.get(b);
            Thing thing = things.get(t);
            if (holding == NONE) {
                return 4 * buyer.desire + thing.weight;
            }
            Map<Character, Long> letters = new HashMap<>();
            letters.put('p', (long) thing.price);
            letters.put('w', (long) thing.weight);
            letters.put('d', (long) buyer.desire);
            letters.put('m', (long) buyer.purse);
            letters.put('s', (long) thing.shop);
            letters.put('h', (long) hour % 24);
            long worth = new Worth(laws.get(holding), letters).worth();
            return (int) Math.max(0, Math.min(99, worth));
        }

        int wouldBeDue(int b, int t) {
            if (buyers.get(b).kind == 2) {
                return 0;
            }
            int due = (int) Math.floor(things.get(t).price * rate / 8.0);
            return buyers.get(b).kind == 1 ? (int) Math.floor(due / 2.0) : due;
        }

        void purse(int b, int value) {
            Buyer o = buyers.get(b);
            buyers.set(b, new Buyer(value, o.desire, o.nerve, o.kind));
        }

        int pickWhy(int b, int t) {
            return !isB(b) || !isT(t) ? 0 : !free(t) ? 2 : holding(b) != NONE ? 3 : NONE;
        }

        int backWhy(int b) {
            return !isB(b) ? 0 : holding(b) == NONE ? 2 : NONE;
        }

        int handWhy(int b, int o) {
            return !isB(b) || !isB(o) ? 0 : b == o ? 1 : holding(b) == NONE ? 2 : holding(o) != NONE ? 3 : NONE;
        }

        int buyWhy(int b) {
            return backWhy(b) != NONE ? backWhy(b)
                : buyers.get(b).purse < things.get(holding(b)).price ? 4 : NONE;
        }

        int hourWhy() {
            return city == null ? 0 : hour == 9999 ? 5 : NONE;
        }

        void doPick(int b, int t) {
            holder.put(t, b);
            heldFor.put(t, 0);
        }

        int doBack(int b) {
            int t = holding(b);
            holder.remove(t);
            heldFor.remove(t);
            int due = away[things.get(t).shop] ? 0 : wouldBeDue(b, t);
            if (due != 0) {
                bills.add(new Bill(b, t, hour, due));
                if (bills.size() == 25) {
                    bills.remove(0);
                }
            }
            return due;
        }

        int doHand(int b, int o) {
            int t = holding(b);
            holder.put(t, o);
            return t;
        }

        int doBuy(int b) {
            int t = holding(b);
            purse(b, buyers.get(b).purse - things.get(t).price);
            holder.remove(t);
            heldFor.remove(t);
            soldTo.put(t, b);
            int before = bills.size();
            bills.removeIf(x -> x.buyer == b && x.thing == t && hour - x.hour <= city.back);
            return before - bills.size();
        }

        void doHour() {
            for (int b = 0; b < buyers.size(); b++) {
                int t = holding(b);
                if (t == NONE) {
                    continue;
                }
                int price = things.get(t).price;
                if (liking(b, t) >= price && buyers.get(b).purse >= price) {
                    doBuy(b);
                } else if (heldFor.get(t) > things.get(t).weight / 3) {
                    doBack(b);
                } else {
                    heldFor.merge(t, 1, Integer::sum);
                }
            }
            for (int b = 0; b < buyers.size(); b++) {
                if (holding(b) != NONE || due(b) > 6 * buyers.get(b).nerve) {
                    continue;
                }
                int best = NONE;
                for (int t = things.size() - 1; t >= 0; t--) {
                    int thing = t;
                    int buyer = b;
                    boolean billed = bills.stream().anyMatch(x -> x.buyer == buyer && x.thing == thing);
                    if (free(t) && !billed && liking(b, t) > 0
                        && (best == NONE || liking(b, t) >= liking(b, best))) {
                        best = t;
                    }
                }
                if (best != NONE) {
                    doPick(b, best);
                }
            }
            hour++;
            if (hour % city.michaelmas == 0) {
                for (int b = 0; b < buyers.size(); b++) {
                    int paid = Math.min(due(b), buyers.get(b).purse);
                    purse(b, buyers.get(b).purse - paid);
                    treasury = Math.min(9999, treasury + paid);
                }
                bills.clear();
                for (int b = 0; b < buyers.size(); b++) {
                    purse(b, Math.min(999, buyers.get(b).purse + city.income));
                }
            }
            log.add(0, new int[] {holders(), bills.size(), treasury});
            if (log.size() > 60) {
                log.remove(60);
            }
        }

        int holders() {
            int bits = 0;
            for (int b : holder.values()) {
                bits |= 1 << b;
            }
            return bits;
        }

        World after(int n) {
            World w = copy();
            for (int i = 0; i < n; i++) {
                w.doHour();
            }
            return w;
        }

        int whyStep(int[] step) {
            return switch (step[0]) {
                case 0 -> pickWhy(step[1], step[2]);
                case 1 -> backWhy(step[1]);
                case 2 -> handWhy(step[1], step[2]);
                case 3 -> buyWhy(step[1]);
                default -> hourWhy();
            };
        }

        void doStep(int[] step) {
            switch (step[0]) {
                case 0 -> doPick(step[1], step[2]);
                case 1 -> doBack(step[1]);
                case 2 -> doHand(step[1], step[2]);
                case 3 -> doBuy(step[1]);
                default -> doHour();
            }
        }

        int total() {
            return treasury + dueAll();
        }
    }

    /** WORTH straight from the text of a LAW without its blanks. */
    static final class Worth {
        private final String text;
        private final Map<Character, Long> letters;
        private int at = 0;

        Worth(String text, Map<Character, Long> letters) {
            this.text = text.replace(" ", "");
            this.letters = letters;
        }

        long worth() {
            for (String clause : text.split(";")) {
                int ask = clause.indexOf('?');
                Worth inner = new Worth(ask < 0 ? clause.substring(2) : clause.substring(2, ask), letters);
                if (ask < 0) {
                    return inner.sum();
                }
                if (inner.condition()) {
                    return new Worth(clause.substring(ask + 1), letters).sum();
                }
            }
            return 0;
        }

        private char next() {
            return at < text.length() ? text.charAt(at) : 0;
        }

        private boolean condition() {
            boolean holds = truth();
            while (next() == '|') {
                at++;
                boolean more = truth();
                holds = holds || more;
            }
            return holds;
        }

        private boolean truth() {
            boolean holds = unit();
            while (next() == '&') {
                at++;
                boolean more = unit();
                holds = holds && more;
            }
            return holds;
        }

        private boolean unit() {
            if (next() == '!') {
                at++;
                return !unit();
            }
            if (next() == '(') {
                at++;
                boolean holds = condition();
                at++;
                return holds;
            }
            long left = sum();
            char sign = next();
            at++;
            long right = sum();
            return sign == '=' ? left == right : sign == '<' ? left < right : left > right;
        }

        private static long held(long value) {
            return Math.max(-1000000, Math.min(1000000, value));
        }

        private long sum() {
            long value = term();
            while (next() == '+' || next() == '-') {
                char sign = next();
                at++;
                long right = term();
                value = held(sign == '+' ? value + right : value - right);
            }
            return value;
        }

        private long term() {
            long value = atom();
            while (next() == '*' || next() == '/') {
                char sign = next();
                at++;
                long right = atom();
                value = held(sign == '*' ? value * right : right == 0 ? 0 : value / right);
            }
            return value;
        }

        private long atom() {
            if (next() == '[') {
                at++;
                long value = sum();
                at++;
                return value;
            }
            if (letters.containsKey(next())) {
                at++;
                return letters.get(text.charAt(at - 1));
            }
            int from = at;
            while (Character.isDigit(next())) {
                at++;
            }
            return Long.parseLong(text.substring(from, at));
        }
    }

    String tape = "";
    City city = null;
    World now = new World();
    World image = null;
    List<String> laws = new ArrayList<>();
    int holding = NONE;
    List<List<int[]>> days = new ArrayList<>();
    List<Seen> seen = new ArrayList<>();
    Deque<World> acts = new ArrayDeque<>();
    int[] status = new int[6];
    int tempted = 2;
    long x;

    boolean isB(int b) {
        return city != null && b >= 0 && b < city.buyers.size();
    }

    boolean isT(int t) {
        return city != null && t >= 0 && t < city.things.size();
    }

    static boolean in(int v, int low, int high) {
        return v >= low && v <= high;
    }

    boolean refuse(int why) {
        if (why != NONE) {
            status[why]++;
        }
        return why != NONE;
    }

    void act() {
        acts.push(now.copy());
        if (acts.size() > 40) {
            acts.removeLast();
        }
    }

    int feed(int... words) {
        StringBuilder more = new StringBuilder();
        for (int word : words) {
            for (int i = 3; i >= 0; i--) {
                char c = (char) (word >> 8 * i & 255);
                if (c != 0) {
                    more.append(c);
                }
            }
        }
        if (tape.length() + more.length() > 240) {
            return NONE;
        }
        tape += more;
        return tape.length();
    }

    boolean end(int n) {
        if (!in(n, 0, tape.length())) {
            return false;
        }
        tape = tape.substring(0, n);
        return true;
    }

    int fault(int sort) {
        return in(sort, 0, 2) ? Recognizer.fault(sort, tape) : -2;
    }

    int text(int sort) {
        if (fault(sort) != NONE || sort == 1 && laws.size() == 4 || sort == 2 && days.size() == 4) {
            return NONE;
        }
        String text = tape.replace(" ", "");
        tape = "";
        if (sort == 0) {
            return newCity(text);
        }
        if (sort == 1) {
            laws.add(text);
            return laws.size() - 1;
        }
        List<int[]> steps = new ArrayList<>();
        for (String step : text.split(";")) {
            steps.add(new int[] {"pbgyh".indexOf(step.charAt(0)),
                step.length() > 1 ? step.charAt(1) - '0' : NONE, step.length() > 2 ? step.charAt(2) - '0' : NONE});
        }
        days.add(steps);
        return days.size() - 1;
    }

    static int item(String clause, char letter, int usual) {
        int at = clause.indexOf(letter, 1);
        if (at < 0) {
            return usual;
        }
        int end = at + 1;
        while (end < clause.length() && Character.isDigit(clause.charAt(end))) {
            end++;
        }
        return Integer.parseInt(clause.substring(at + 1, end));
    }

    private int newCity(String text) {
        City c = new City();
        for (String clause : text.split(";")) {
            if (clause.charAt(0) == 's') {
                c.rate = item(clause, 'r', 2);
                c.back = item(clause, 'h', 2);
                c.michaelmas = item(clause, 'y', 12);
                c.income = item(clause, 'i', 5);
            } else if (clause.charAt(0) == 't') {
                c.things.add(new Thing(item(clause, 'p', 20), item(clause, 'w', 2), item(clause, 's', 0)));
            } else {
                c.buyers.add(new Buyer(item(clause, 'm', 30), item(clause, 'd', 5), item(clause, 'n', 4),
                    item(clause, 'k', 0)));
            }
        }
        city = c;
        now = told();
        image = null;
        seen.clear();
        acts.clear();
        return c.things.size();
    }

    World told() {
        World w = new World();
        w.things.addAll(city.things);
        w.buyers.addAll(city.buyers);
        w.rate = city.rate;
        return w;
    }

    int thing(int t, int what) {
        if (!isT(t) || !in(what, 0, 5)) {
            return HIDDEN;
        }
        Thing thing = now.things.get(t);
        return switch (what) {
            case 0 -> thing.price;
            case 1 -> thing.weight;
            case 2 -> thing.shop;
            case 3 -> now.holder.getOrDefault(t, now.soldTo.getOrDefault(t, NONE));
            case 4 -> now.soldTo.containsKey(t) ? 1 : 0;
            default -> now.heldFor.getOrDefault(t, 0);
        };
    }

    int buyer(int b, int what) {
        if (!isB(b) || !in(what, 0, 6)) {
            throw new NoSuchElementException();
        }
        Buyer buyer = now.buyers.get(b);
        return switch (what) {
            case 0 -> buyer.purse;
            case 1 -> buyer.desire;
            case 2 -> buyer.nerve;
            case 3 -> buyer.kind;
            case 4 -> now.holding(b);
            case 5 -> now.due(b);
            default -> (int) now.bills.stream().filter(y -> y.buyer == b).count();
        };
    }

    int liking(int b, int t) {
        return isB(b) && isT(t) ? now.liking(b, t) : NONE;
    }

    int bill(int b, int i, int what) {
        List<Bill> his = now.bills.stream().filter(y -> y.buyer == b).toList();
        if (!isB(b) || !in(i, 0, his.size() - 1) || !in(what, 0, 2)) {
            return NONE;
        }
        Bill bill = his.get(i);
        return what == 0 ? bill.thing : what == 1 ? bill.hour : bill.due;
    }

    boolean law(int law) {
        if (!in(law, NONE, laws.size() - 1)) {
            return false;
        }
        holding = law;
        return true;
    }

    boolean tempted(int v) {
        if (!in(v, 0, 9) || v == tempted) {
            return false;
        }
        tempted = v;
        return true;
    }

    int pick(int b, int t) {
        if (refuse(now.pickWhy(b, t))) {
            return NONE;
        }
        act();
        now.doPick(b, t);
        return now.liking(b, t);
    }

    int putBack(int b) {
        if (refuse(now.backWhy(b))) {
            return NONE;
        }
        act();
        return now.doBack(b);
    }

    int hand(int b, int o) {
        if (refuse(now.handWhy(b, o))) {
            return NONE;
        }
        act();
        return now.doHand(b, o);
    }

    int buy(int b) {
        if (refuse(now.buyWhy(b))) {
            return NONE;
        }
        act();
        return now.doBuy(b);
    }

    int hour() {
        if (refuse(now.hourWhy())) {
            return NONE;
        }
        act();
        now.doHour();
        return now.holders();
    }

    int clerk(int shop) {
        if (refuse(city == null ? 0 : !in(shop, 0, 3) ? 1 : NONE)) {
            return NONE;
        }
        act();
        now.away[shop] = !now.away[shop];
        return now.away[shop] ? 1 : 0;
    }

    int rate(int v) {
        if (refuse(city == null ? 0 : !in(v, 0, 8) ? 1 : v == now.rate ? 2 : NONE)) {
            return NONE;
        }
        act();
        int was = now.rate;
        now.rate = v;
        return was;
    }

    int gift(int b, int n) {
        if (refuse(!isB(b) ? 0 : !in(n, 1, 50) || now.buyers.get(b).purse + n > 999 ? 1 : NONE)) {
            return NONE;
        }
        act();
        now.purse(b, now.buyers.get(b).purse + n);
        return now.buyers.get(b).purse;
    }

    int draw(int j) {
        x = x * 6364136223846793005L + 1442695040888963407L;
        return (int) ((x >>> 33) % j);
    }

    int years(int n, long seed) {
        if (city == null || !in(n, 1, 30) || now.hour + n > 9999) {
            return NONE;
        }
        x = seed;
        for (int i = 0; i < n; i++) {
            act();
            if (draw(10) < tempted) {
                int shop = draw(4);
                now.away[shop] = !now.away[shop];
            }
            if (draw(10) < 2) {
                int b = draw(now.buyers.size());
                now.purse(b, Math.min(999, now.buyers.get(b).purse + draw(10) + 1));
            }
            now.doHour();
        }
        return now.hour;
    }

    int status(int what) {
        return in(what, 0, 5) ? status[what] : NONE;
    }

    int undo() {
        if (acts.isEmpty()) {
            return NONE;
        }
        now = acts.pop();
        return acts.size();
    }

    int log(int i, int what) {
        return in(i, 0, now.log.size() - 1) && in(what, 0, 2) ? now.log.get(i)[what] : NONE;
    }

    int step(int day, int i, int what) {
        return in(day, 0, days.size() - 1) && in(i, 0, days.get(day).size() - 1) && in(what, 0, 2)
            ? days.get(day).get(i)[what] : HIDDEN;
    }

    int run(int day, int what) {
        if (city == null || !in(day, 0, days.size() - 1) || !in(what, 0, 1)) {
            return HIDDEN;
        }
        World w = now.copy();
        int done = 0;
        for (int[] step : days.get(day)) {
            if (w.whyStep(step) != NONE) {
                break;
            }
            w.doStep(step);
            done++;
        }
        return what == 1 ? w.dueAll() : done == days.get(day).size() ? NONE : done;
    }

    int perform(int day) {
        if (city == null || !in(day, 0, days.size() - 1)) {
            return NONE;
        }
        int done = 0;
        for (int[] step : days.get(day)) {
            if (now.whyStep(step) != NONE) {
                break;
            }
            act();
            now.doStep(step);
            done++;
        }
        return done;
    }

    int treasury(int n) {
        return city != null && in(n, 0, 60) ? now.after(n).treasury : NONE;
    }

    int purse(int b, int n) {
        return isB(b) && in(n, 0, 60) ? now.after(n).buyers.get(b).purse : NONE;
    }

    int whose(int t, int n) {
        if (!isT(t) || !in(n, 0, 60)) {
            return NONE;
        }
        World w = now.after(n);
        return w.holder.getOrDefault(t, w.soldTo.getOrDefault(t, NONE));
    }

    private void orders(int b, int n, List<Integer> so, TreeMap<Integer, Integer> found) {
        int worth = 0;
        int number = 1;
        for (int i = so.size() - 1; i >= 0; i--) {
            int t = so.get(i);
            int chance = 10 + 8 * now.things.get(t).weight;
            long left = worth - 1000L * now.wouldBeDue(b, t);
            worth = (int) ((chance * 1000L * now.liking(b, t) + (100 - chance) * left) / 100);
        }
        for (int t : so) {
            number = number * 10 + t;
        }
        found.put(number, worth);
        for (int t = 0; t < now.things.size() && so.size() < n; t++) {
            if (now.free(t) && !so.contains(t)) {
                so.add(t);
                orders(b, n, so, found);
                so.remove(so.size() - 1);
            }
        }
    }

    int seek(int b, int n, int what) {
        if (!isB(b) || now.holding(b) != NONE || !in(n, 1, 4) || !in(what, 0, 1)) {
            return NONE;
        }
        TreeMap<Integer, Integer> found = new TreeMap<>();
        orders(b, n, new ArrayList<>(), found);
        int most = found.values().stream().mapToInt(v -> v).max().getAsInt();
        int order = found.entrySet().stream().filter(e -> e.getValue() == most).findFirst().get().getKey();
        return what == 0 ? most : order;
    }

    int raises(int n, int what) {
        if (city == null || !in(n, 1, 60) || !in(what, 0, 1)) {
            return NONE;
        }
        int[] by = new int[9];
        for (int r = 0; r <= 8; r++) {
            World w = now.copy();
            w.rate = r;
            by[r] = w.after(n).treasury;
        }
        int most = Arrays.stream(by).max().getAsInt();
        for (int r = 0; r <= 8; r++) {
            if (by[r] == most) {
                return what == 0 ? r : most;
            }
        }
        return NONE;
    }

    int selling(int t, int what) {
        if (!isT(t) || now.soldTo.containsKey(t) || !in(what, 0, 1)) {
            return NONE;
        }
        int[] by = new int[10];
        for (int weight = 0; weight <= 9; weight++) {
            World w = now.copy();
            w.things.set(t, new Thing(w.things.get(t).price, weight, w.things.get(t).shop));
            by[weight] = 99;
            for (int n = 1; n <= 40 && by[weight] == 99; n++) {
                w.doHour();
                if (w.soldTo.containsKey(t)) {
                    by[weight] = n;
                }
            }
        }
        int least = Arrays.stream(by).min().getAsInt();
        for (int weight = 0; weight <= 9 && least < 99; weight++) {
            if (by[weight] == least) {
                return what == 0 ? weight : least;
            }
        }
        return NONE;
    }

    int seen(int n, int v, boolean more) {
        if (city == null || !in(n, 1, 60) || !in(v, 0, 999) || seen.size() == 10) {
            return NONE;
        }
        seen.add(new Seen(n, v, more));
        return seen.size();
    }

    private int[] totals(int b, int desire) {
        World w = told();
        Buyer o = w.buyers.get(b);
        w.buyers.set(b, new Buyer(o.purse, desire, o.nerve, o.kind));
        int[] totals = new int[61];
        for (int n = 1; n <= 60; n++) {
            w.doHour();
            totals[n] = w.total();
        }
        return totals;
    }

    private List<Integer> fitting(int b) {
        List<Integer> fit = new ArrayList<>();
        for (int d = 0; d <= 9; d++) {
            int[] totals = totals(b, d);
            if (seen.stream().allMatch(s -> s.more ? totals[s.n] >= s.v : totals[s.n] < s.v)) {
                fit.add(d);
            }
        }
        return fit;
    }

    int desires(int b, int i) {
        if (!isB(b)) {
            return NONE;
        }
        List<Integer> fit = fitting(b);
        return i == NONE ? fit.size() : in(i, 0, fit.size() - 1) ? fit.get(i) : NONE;
    }

    int ask(int b) {
        if (!isB(b) || fitting(b).isEmpty()) {
            return NONE;
        }
        List<int[]> rows = fitting(b).stream().map(d -> totals(b, d)).toList();
        int best = 0;
        int fewest = 99;
        for (int n = 1; n <= 60; n++) {
            Map<Integer, Integer> groups = new HashMap<>();
            for (int[] row : rows) {
                groups.merge(row[n], 1, Integer::sum);
            }
            int most = groups.values().stream().mapToInt(v -> v).max().getAsInt();
            if (most < fewest) {
                fewest = most;
                best = n;
            }
        }
        return best;
    }

    int game(int b, int t, int tenths, int y, int what) {
        if (!isB(b) || !isT(t) || now.soldTo.containsKey(t) || !in(tenths, 0, 3) || !in(y, 0, 2) || !in(what, 0, 1)) {
            return HIDDEN;
        }
        int price = now.things.get(t).price;
        int seller = y == 1 ? price - tenths * price / 10 : y == 2 ? 1 : 0;
        int buyer = y == 1 ? now.liking(b, t) - seller : y == 2 ? now.liking(b, t) / 4 - now.wouldBeDue(b, t) : 0;
        return what == 0 ? seller : buyer;
    }

    int rests(int b, int t, int i) {
        if (!isB(b) || !isT(t) || now.soldTo.containsKey(t)) {
            return NONE;
        }
        List<Integer> rests = new ArrayList<>();
        for (int a = 0; a <= 3; a++) {
            for (int y = 0; y <= 2; y++) {
                boolean rest = true;
                for (int o = 0; o <= 3; o++) {
                    rest &= game(b, t, o, y, 0) <= game(b, t, a, y, 0);
                }
                for (int o = 0; o <= 2; o++) {
                    rest &= game(b, t, a, o, 1) <= game(b, t, a, y, 1);
                }
                if (rest) {
                    rests.add(10 * a + y);
                }
            }
        }
        return i == NONE ? rests.size() : in(i, 0, rests.size() - 1) ? rests.get(i) : NONE;
    }

    int odds(int n, int v, int chance) {
        if (city == null || !in(n, 0, 6) || !in(v, 0, 999) || !in(chance, 0, 100)) {
            return NONE;
        }
        long sum = 0;
        for (int path = 0; path < 1 << n; path++) {
            World w = now.copy();
            long parts = 1000000000L;
            for (int i = 0; i < n; i++) {
                long away = parts * chance / 100;
                boolean looksAway = (path >> i & 1) == 1;
                boolean[] asNow = w.away;
                if (looksAway) {
                    w.away = new boolean[] {true, true, true, true};
                }
                w.doHour();
                w.away = asNow;
                parts = looksAway ? away : parts - away;
            }
            sum += w.total() >= v ? parts : 0;
        }
        return (int) sum;
    }

    int shares(int b, int c) {
        if (!isB(b) || !in(c, 0, 999)) {
            return NONE;
        }
        return now.dueAll() == 0 ? 0 : c * now.due(b) / now.dueAll();
    }

    private static int first(int[] values) {
        int most = Arrays.stream(values).max().getAsInt();
        for (int i = 0; ; i++) {
            if (values[i] == most) {
                return i;
            }
        }
    }

    private int bits(int n, java.util.function.IntPredicate set) {
        int bits = 0;
        for (int i = 0; i < n; i++) {
            bits |= set.test(i) ? 1 << i : 0;
        }
        return bits;
    }

    int all(int what) {
        if (city == null) {
            return HIDDEN;
        }
        int bs = city.buyers.size();
        int ts = city.things.size();
        return switch (what) {
            case 0 -> first(now.buyers.stream().mapToInt(Buyer::purse).toArray());
            case 1 -> first(java.util.stream.IntStream.range(0, bs).map(b -> now.due(b)).toArray());
            case 2 -> first(now.buyers.stream().mapToInt(Buyer::nerve).toArray());
            case 3 -> first(now.buyers.stream().mapToInt(Buyer::desire).toArray());
            case 4 -> first(now.things.stream().mapToInt(Thing::price).toArray());
            case 5 -> first(now.things.stream().mapToInt(Thing::weight).toArray());
            case 6 -> now.holders();
            case 7 -> bits(ts, t -> now.free(t));
            case 8 -> bits(ts, t -> now.soldTo.containsKey(t));
            case 9 -> bits(bs, b -> now.due(b) > 6 * now.buyers.get(b).nerve);
            case 10 -> now.dueAll();
            case 11 -> bits(4, s -> now.away[s]);
            case 12 -> first(java.util.stream.IntStream.range(0, ts).map(t ->
                java.util.stream.IntStream.range(0, bs).map(b -> now.liking(b, t)).sum()).toArray());
            default -> HIDDEN;
        };
    }

    int image() {
        if (city == null) {
            return NONE;
        }
        image = now.copy();
        return now.hour;
    }

    int back() {
        if (image == null) {
            return NONE;
        }
        now = image.copy();
        acts.clear();
        return now.hour;
    }

    int count(int what) {
        return switch (what) {
            case 0 -> city == null ? 0 : city.things.size();
            case 1 -> city == null ? 0 : city.buyers.size();
            case 2 -> laws.size();
            case 3 -> days.size();
            case 4 -> tape.length();
            case 5 -> holding;
            case 6 -> now.hour;
            case 7 -> now.rate;
            case 8 -> now.treasury;
            case 9 -> now.bills.size();
            case 10 -> tempted;
            case 11 -> seen.size();
            case 12 -> now.log.size();
            case 13 -> acts.size();
            default -> HIDDEN;
        };
    }
}
