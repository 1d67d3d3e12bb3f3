import java.util.ArrayDeque;
import java.util.ArrayList;
import java.util.Arrays;
import java.util.Deque;
import java.util.List;
import java.util.NoSuchElementException;
import java.util.function.IntPredicate;
import java.util.regex.Matcher;
import java.util.regex.Pattern;

/**
 * The document once more, word by word and without care for speed, so that ModelTest can hold the class against it.
 * It is written with other means on purpose: copies of whole states, lambdas for conditions, brute force for choices.
 */
final class Model {
    static final int NONE = -1;

    record Shower(int a, int b, int from, int to, int drift, int chance, int state) {
        boolean liesOver(int acre, int minute) {
            if (minute < from || minute > to) {
                return false;
            }
            int moved = (minute - from) / 4 * drift;
            return a + moved <= acre && acre <= b + moved;
        }

        boolean wets(int acre, int minute) {
            return liesOver(acre, minute) && state != 2;
        }

        Shower told(int newState) {
            return new Shower(a, b, from, to, drift, chance, newState);
        }
    }

    record Broker(int purse, int acre, int pace) {
        Broker with(int newPurse) {
            return new Broker(Math.min(9999, newPurse), acre, pace);
        }
    }

    record Deed(int acre, int from, int to, int price, int owner, int wet, boolean insured) {
        boolean has(int minute) {
            return from <= minute && minute <= to;
        }

        Deed with(int newOwner, int newWet, boolean newInsured) {
            return new Deed(acre, from, to, price, newOwner, newWet, newInsured);
        }
    }

    interface Cond {
        boolean holds(State s, int acre, int minute, int who);
    }

    interface Num {
        int of(State s, int acre, int minute, int who);
    }

    record LawLine(String head, int n, Cond cond) {
    }

    static final class State {
        List<Shower> showers = new ArrayList<>();
        List<Broker> brokers = new ArrayList<>();
        List<Deed> deeds = new ArrayList<>();
        List<int[]> log = new ArrayList<>();
        List<LawLine> law = null;
        int texts = 0;
        int road = 8;
        int wage = 5;
        int minute = 0;
        int seed = 1;

        State copy() {
            State c = new State();
            c.showers = new ArrayList<>(showers);
            c.brokers = new ArrayList<>(brokers);
            c.deeds = new ArrayList<>(deeds);
            c.log = new ArrayList<>(log);
            c.law = law;
            c.texts = texts;
            c.road = road;
            c.wage = wage;
            c.minute = minute;
            c.seed = seed;
            return c;
        }

        int many(int acre, int m) {
            return (int) showers.stream().filter(s -> s.wets(acre, m)).count();
        }

        boolean owned(int acre, int m) {
            return deeds.stream().anyMatch(d -> d.owner() != NONE && d.acre() == acre && d.has(m));
        }

        boolean arch(int acre, int m) {
            int f = Model.footOf(acre, m);
            return f != NONE && many(f, m) > 0;
        }

        boolean onAcre(int acre, int from, int m) {
            return Model.footOf(from, m) == acre && arch(from, m);
        }

        int lawSum(String head, int acre, int m, int who) {
            int sum = 0;
            if (law != null) {
                for (LawLine l : law) {
                    if (l.head().equals(head) && l.cond().holds(this, acre, m, who)) {
                        sum += l.n();
                    }
                }
            }
            return sum;
        }

        int costs(int broker, int deed) {
            return deeds.get(deed).price() + lawSum("cost", deeds.get(deed).acre(), minute, broker);
        }

        int brings(int broker, int deed, int m) {
            return wage + lawSum("bring", deeds.get(deed).acre(), m, broker);
        }

        int walks(int broker) {
            Broker b = brokers.get(broker);
            return Math.max(0, b.pace() - lawSum("slow", b.acre(), minute, broker));
        }

        int draw() {
            seed = (int) (1103515245L * seed + 12345L);
            return (int) ((seed & 0xFFFFFFFFL) >> 16) & 0x7FFF;
        }

        int oneMinute(boolean draws) {
            for (int i = 0; i < showers.size(); i++) {
                Shower s = showers.get(i);
                if (s.state() == 0 && s.from() == minute) {
                    showers.set(i, s.told(!draws || draw() % 100 < s.chance() ? 1 : 2));
                }
            }
            int often = 0;
            for (int i = 0; i < deeds.size(); i++) {
                Deed d = deeds.get(i);
                if (d.owner() == NONE || !d.has(minute)) {
                    continue;
                }
                Broker o = brokers.get(d.owner());
                if (onAcre(d.acre(), road, minute)) {
                    int much = brings(d.owner(), i, minute);
                    d = d.with(d.owner(), d.wet() + 1, d.insured());
                    o = o.with(o.purse() + much);
                    log.add(0, new int[] {minute, i, d.acre(), much});
                    if (log.size() > 60) {
                        log.remove(60);
                    }
                    often++;
                }
                if (d.insured() && minute == d.to() && d.wet() == 0) {
                    o = o.with(o.purse() + d.price());
                }
                deeds.set(i, d);
                brokers.set(d.owner(), o);
            }
            minute = Math.min(9999, minute + 1);
            return often;
        }

        int minutes(int n, boolean draws) {
            int often = 0;
            for (int i = 0; i < n; i++) {
                often += oneMinute(draws);
            }
            return often;
        }

        int purses() {
            return brokers.stream().mapToInt(Broker::purse).sum();
        }

        int worth(int broker) {
            return brokers.get(broker).purse()
                    + deeds.stream().filter(d -> d.owner() == broker).mapToInt(Deed::price).sum();
        }
    }

    static final class Wrong extends Exception {
        private static final long serialVersionUID = 1L;
        final int at;

        Wrong(int at) {
            this.at = at;
        }
    }

    private byte[] tape = new byte[0];
    private State s = new State();
    private State image = null;
    private final Deque<State> acts = new ArrayDeque<>();
    private int fault = NONE;

    // ---- texts

    private static final Pattern THING = Pattern.compile("[a-z]+|[0-9]+|[^ ]", Pattern.DOTALL);

    private static final class Things {
        final List<String> words = new ArrayList<>();
        final List<Integer> begins = new ArrayList<>();
        int at = 0;

        Things(byte[] bytes) {
            StringBuilder text = new StringBuilder();
            for (byte b : bytes) {
                text.append((char) (b & 255));
            }
            Matcher m = THING.matcher(text);
            while (m.find()) {
                words.add(m.group());
                begins.add(m.start());
            }
            words.add("");
            begins.add(bytes.length);
        }

        String see() {
            return words.get(at);
        }

        Wrong wrong() {
            return new Wrong(begins.get(at));
        }

        boolean skip(String word) {
            if (see().equals(word)) {
                at++;
                return true;
            }
            return false;
        }

        void want(String word) throws Wrong {
            if (!skip(word)) {
                throw wrong();
            }
        }

        int number(int least, int most) throws Wrong {
            if (!see().matches("[0-9]{1,3}")) {
                throw wrong();
            }
            int n = Integer.parseInt(see());
            if (n < least || n > most) {
                throw wrong();
            }
            at++;
            return n;
        }
    }

    private static void readCounty(Things t, State c) throws Wrong {
        if (t.see().isEmpty()) {
            return;
        }
        int lines = 0;
        do {
            if (++lines > 14) {
                throw t.wrong();
            }
            readLine(t, c);
        } while (t.skip(";"));
        t.want("");
    }

    private static void readLine(Things t, State c) throws Wrong {
        boolean tooMany = t.see().equals("shower") && c.showers.size() == 6
                || t.see().equals("broker") && c.brokers.size() == 5
                || t.see().equals("deed") && c.deeds.size() == 8;
        if (tooMany) {
            throw t.wrong();
        }
        if (t.skip("shower")) {
            int a = t.number(0, 15);
            t.want("to");
            int b = t.number(a, 15);
            t.want("from");
            int from = t.number(0, 999);
            t.want("to");
            int to = t.number(from, 999);
            int drift = t.skip("east") ? t.number(0, 2) : t.skip("west") ? -t.number(0, 2) : 0;
            int chance = t.skip("chance") ? t.number(0, 100) : 100;
            c.showers.add(new Shower(a, b, from, to, drift, chance, 0));
        } else if (t.skip("broker")) {
            int purse = t.number(0, 999);
            t.want("at");
            int acre = t.number(0, 15);
            t.want("pace");
            c.brokers.add(new Broker(purse, acre, t.number(1, 4)));
        } else if (t.skip("deed")) {
            int acre = t.number(0, 15);
            t.want("from");
            int from = t.number(0, 999);
            t.want("to");
            int to = t.number(from, 999);
            t.want("price");
            c.deeds.add(new Deed(acre, from, to, t.number(0, 999), NONE, 0, false));
        } else if (t.skip("road")) {
            c.road = t.number(0, 15);
        } else if (t.skip("wage")) {
            c.wage = t.number(0, 99);
        } else if (t.skip("minute")) {
            c.minute = t.number(0, 999);
        } else {
            throw t.wrong();
        }
    }

    private static List<LawLine> readLaw(Things t) throws Wrong {
        List<LawLine> law = new ArrayList<>();
        if (t.see().isEmpty()) {
            return law;
        }
        do {
            String head = t.see();
            if (law.size() == 12 || !List.of("cost", "bring", "slow").contains(head)) {
                throw t.wrong();
            }
            t.skip(head);
            int n = t.number(0, 99);
            Cond cond = t.skip("if") ? any(t, 0) : (c, a, m, w) -> true;
            law.add(new LawLine(head, n, cond));
        } while (t.skip(";"));
        t.want("");
        return law;
    }

    private static Cond any(Things t, int deep) throws Wrong {
        Cond left = all(t, deep);
        while (t.skip("or")) {
            Cond one = left;
            Cond two = all(t, deep);
            left = (c, a, m, w) -> one.holds(c, a, m, w) || two.holds(c, a, m, w);
        }
        return left;
    }

    private static Cond all(Things t, int deep) throws Wrong {
        Cond left = atom(t, deep);
        while (t.skip("and")) {
            Cond one = left;
            Cond two = atom(t, deep);
            left = (c, a, m, w) -> one.holds(c, a, m, w) && two.holds(c, a, m, w);
        }
        return left;
    }

    private static Cond atom(Things t, int deep) throws Wrong {
        if (deep == 6 && (t.see().equals("not") || t.see().equals("("))) {
            throw t.wrong();
        }
        if (t.skip("not")) {
            Cond one = atom(t, deep + 1);
            return (c, a, m, w) -> !one.holds(c, a, m, w);
        }
        if (t.skip("(")) {
            Cond one = any(t, deep + 1);
            t.want(")");
            return one;
        }
        if (t.skip("wet")) {
            return (c, a, m, w) -> c.many(a, m) > 0;
        }
        if (t.skip("owned")) {
            return (c, a, m, w) -> c.owned(a, m);
        }
        Num left = sum(t);
        boolean less = t.skip("<");
        if (!less) {
            t.want(">");
        }
        Num right = sum(t);
        return (c, a, m, w) -> less ? left.of(c, a, m, w) < right.of(c, a, m, w)
                : left.of(c, a, m, w) > right.of(c, a, m, w);
    }

    private static Num sum(Things t) throws Wrong {
        Num left = part(t);
        while (t.skip("+")) {
            Num one = left;
            Num two = part(t);
            left = (c, a, m, w) -> one.of(c, a, m, w) + two.of(c, a, m, w);
        }
        return left;
    }

    private static Num part(Things t) throws Wrong {
        if (t.skip("acre")) {
            return (c, a, m, w) -> a;
        }
        if (t.skip("sun")) {
            return (c, a, m, w) -> sunOf(m);
        }
        if (t.skip("reach")) {
            return (c, a, m, w) -> Math.max(0, reachOf(m));
        }
        if (t.skip("hour")) {
            return (c, a, m, w) -> m % 96;
        }
        if (t.skip("many")) {
            return (c, a, m, w) -> c.many(a, m);
        }
        if (t.skip("who")) {
            return (c, a, m, w) -> w;
        }
        int n = t.number(0, 999);
        return (c, a, m, w) -> n;
    }

    // ---- the sky

    static int sunOf(int m) {
        return 48 - Math.abs(m % 96 - 48);
    }

    static int reachOf(int m) {
        int sun = sunOf(m);
        return sun > 42 || sun == 0 ? NONE : Math.floorDiv(42 - sun, 6);
    }

    static int footOf(int acre, int m) {
        int r = reachOf(m);
        if (r == NONE) {
            return NONE;
        }
        int f = m % 96 < 48 ? acre - r : acre + r;
        return f < 0 || f > 15 ? NONE : f;
    }

    // ---- the face

    private byte[] useTape() {
        byte[] used = tape;
        tape = new byte[0];
        return used;
    }

    private void acre(int acre) {
        if (acre < 0 || acre > 15) {
            throw new IndexOutOfBoundsException();
        }
    }

    private void index(int i, int size) {
        if (i < 0 || i >= size) {
            throw new IndexOutOfBoundsException();
        }
    }

    private void iae(boolean bad) {
        if (bad) {
            throw new IllegalArgumentException();
        }
    }

    private void ise(boolean bad) {
        if (bad) {
            throw new IllegalStateException();
        }
    }

    private void minute(int m) {
        iae(m < 0 || m > 9999);
    }

    private void act() {
        acts.push(s.copy());
        if (acts.size() > 12) {
            acts.removeLast();
        }
    }

    int feed(int... n) {
        if (tape.length + 20 > 400) {
            return NONE;
        }
        int at = tape.length;
        tape = Arrays.copyOf(tape, at + 20);
        for (int v : n) {
            for (int k = 3; k >= 0; k--) {
                tape[at++] = (byte) (v >> 8 * k);
            }
        }
        return tape.length;
    }

    boolean end(int n) {
        if (n < 0 || n > tape.length) {
            return false;
        }
        tape = Arrays.copyOf(tape, n);
        return true;
    }

    int county() {
        State c = s.copy();
        try {
            fault = NONE;
            readCounty(new Things(useTape()), c);
        } catch (Wrong e) {
            fault = e.at;
            throw new IllegalArgumentException();
        }
        if (s.texts == 12) {
            throw new UnsupportedOperationException();
        }
        s = c;
        acts.clear();
        return ++s.texts;
    }

    int law() {
        try {
            fault = NONE;
            s.law = readLaw(new Things(useTape()));
        } catch (Wrong e) {
            fault = e.at;
            throw new IllegalArgumentException();
        }
        acts.clear();
        return s.law.size();
    }

    int fault() {
        return fault;
    }

    private static int pick(int what, int... answers) {
        if (what < 0 || what >= answers.length) {
            throw new NoSuchElementException();
        }
        return answers[what];
    }

    int shower(int i, int what) {
        index(i, s.showers.size());
        Shower h = s.showers.get(i);
        return pick(what, h.a(), h.b(), h.from(), h.to(), h.drift() + 2, h.chance(), h.state());
    }

    private int bits(int size, IntPredicate in) {
        int set = 0;
        for (int i = 0; i < size; i++) {
            set += in.test(i) ? 1 << i : 0;
        }
        return set;
    }

    int broker(int i, int what) {
        index(i, s.brokers.size());
        Broker b = s.brokers.get(i);
        int deeds = bits(s.deeds.size(), d -> s.deeds.get(d).owner() == i);
        return pick(what, b.purse(), b.acre(), b.pace(), s.walks(i), deeds, s.worth(i));
    }

    int deed(int i, int what) {
        index(i, s.deeds.size());
        Deed d = s.deeds.get(i);
        return pick(what, d.acre(), d.from(), d.to(), d.price(), d.owner(), d.wet(), d.insured() ? 1 : 0);
    }

    int costs(int b, int d) {
        index(b, s.brokers.size());
        index(d, s.deeds.size());
        return s.costs(b, d);
    }

    int brings(int b, int d, int m) {
        index(b, s.brokers.size());
        index(d, s.deeds.size());
        minute(m);
        return s.brings(b, d, m);
    }

    int buy(int b, int d) {
        int cost = costs(b, d);
        ise(s.deeds.get(d).owner() != NONE || s.brokers.get(b).purse() < cost);
        act();
        s.brokers.set(b, s.brokers.get(b).with(s.brokers.get(b).purse() - cost));
        s.deeds.set(d, s.deeds.get(d).with(b, 0, false));
        return s.brokers.get(b).purse();
    }

    int sell(int d, int b) {
        int cost = costs(b, d);
        Deed deed = s.deeds.get(d);
        iae(deed.owner() == b);
        ise(deed.owner() == NONE || s.brokers.get(b).purse() < cost);
        act();
        s.brokers.set(b, s.brokers.get(b).with(s.brokers.get(b).purse() - cost));
        s.brokers.set(deed.owner(), s.brokers.get(deed.owner()).with(s.brokers.get(deed.owner()).purse() + cost));
        s.deeds.set(d, deed.with(b, deed.wet(), deed.insured()));
        return cost;
    }

    int go(int b, int to) {
        index(b, s.brokers.size());
        acre(to);
        Broker w = s.brokers.get(b);
        int far = Math.abs(w.acre() - to);
        iae(far > s.walks(b));
        act();
        s.brokers.set(b, new Broker(w.purse(), to, w.pace()));
        return far;
    }

    int tell(int i, int state) {
        index(i, s.showers.size());
        iae(state < 0 || state > 2);
        act();
        int was = s.showers.get(i).state();
        s.showers.set(i, s.showers.get(i).told(state));
        return was;
    }

    int road(int to) {
        acre(to);
        act();
        int was = s.road;
        s.road = to;
        return was;
    }

    int insure(int d) {
        index(d, s.deeds.size());
        Deed deed = s.deeds.get(d);
        ise(deed.owner() == NONE || deed.insured() || s.brokers.get(deed.owner()).purse() < s.wage);
        act();
        Broker o = s.brokers.get(deed.owner());
        s.brokers.set(deed.owner(), o.with(o.purse() - s.wage));
        s.deeds.set(d, deed.with(deed.owner(), deed.wet(), true));
        return s.brokers.get(deed.owner()).purse();
    }

    int minutes(int n) {
        iae(n < 1 || n > 100);
        act();
        return s.minutes(n, true);
    }

    int sun(int m) {
        minute(m);
        return sunOf(m);
    }

    int reach(int m) {
        minute(m);
        return reachOf(m);
    }

    int foot(int a, int m) {
        acre(a);
        minute(m);
        return footOf(a, m);
    }

    boolean arch(int a, int m) {
        acre(a);
        minute(m);
        return s.arch(a, m);
    }

    int wets(int a, int m) {
        acre(a);
        minute(m);
        return bits(s.showers.size(), i -> s.showers.get(i).wets(a, m));
    }

    int looks(int a, int m) {
        acre(a);
        minute(m);
        return bits(16, from -> s.onAcre(a, from, m));
    }

    private int standing(int a, int road, int m, int n) {
        int sum = 0;
        for (int i = m; i < m + n; i++) {
            sum += s.onAcre(a, road, i) ? 1 : 0;
        }
        return sum;
    }

    int stands(int a, int m, int n) {
        acre(a);
        minute(m);
        iae(n < 1 || n > 96);
        return standing(a, s.road, m, n);
    }

    int best(int m, int n) {
        minute(m);
        iae(n < 1 || n > 96);
        int best = 0;
        for (int a = 15; a >= 0; a--) {
            best = standing(a, s.road, m, n) >= standing(best, s.road, m, n) ? a : best;
        }
        return best;
    }

    int first(int a, int m) {
        acre(a);
        minute(m);
        for (int i = 0; i < 200; i++) {
            if (s.onAcre(a, s.road, m + i)) {
                return m + i;
            }
        }
        return NONE;
    }

    int site(int a, int m, int n) {
        acre(a);
        minute(m);
        iae(n < 1 || n > 96);
        int best = 0;
        for (int r = 1; r < 16; r++) {
            best = standing(a, r, m, n) > standing(a, best, m, n) ? r : best;
        }
        return best;
    }

    private int chances(int a, int m) {
        java.math.BigInteger dry = java.math.BigInteger.ONE;
        for (Shower h : s.showers) {
            int wetBy = !h.liesOver(a, m) || h.state() == 2 ? 0 : h.state() == 1 ? 100 : h.chance();
            dry = dry.multiply(java.math.BigInteger.valueOf(100 - wetBy));
        }
        java.math.BigInteger whole = java.math.BigInteger.valueOf(100).pow(s.showers.size());
        return whole.subtract(dry).multiply(java.math.BigInteger.valueOf(10000)).divide(whole).intValue();
    }

    int odds(int a, int m) {
        acre(a);
        minute(m);
        return chances(a, m);
    }

    int hope(int d) {
        index(d, s.deeds.size());
        Deed deed = s.deeds.get(d);
        int sum = 0;
        for (int m = deed.from(); m <= deed.to(); m++) {
            sum += footOf(s.road, m) == deed.acre() ? chances(deed.acre(), m) : 0;
        }
        return sum / 100;
    }

    int gain(int b, int d) {
        int sum = -costs(b, d);
        Deed deed = s.deeds.get(d);
        for (int m = 0; m <= 999; m++) {
            if (m >= s.minute && deed.has(m) && s.onAcre(deed.acre(), s.road, m)) {
                sum += s.brings(b, d, m);
            }
        }
        return sum;
    }

    int deals(int b, boolean much) {
        index(b, s.brokers.size());
        int n = s.deeds.size();
        int[] cost = new int[n];
        int[] gain = new int[n];
        for (int d = 0; d < n; d++) {
            cost[d] = s.deeds.get(d).owner() == NONE ? costs(b, d) : 1000000;
            gain[d] = gain(b, d);
        }
        int best = 0;
        int most = 0;
        for (int set = 0; set < 1 << n; set++) {
            int c = 0;
            int g = 0;
            for (int d = 0; d < n; d++) {
                c += (set >> d & 1) * cost[d];
                g += (set >> d & 1) * gain[d];
            }
            if (c <= s.brokers.get(b).purse() && g > most) {
                best = set;
                most = g;
            }
        }
        return much ? most : best;
    }

    private int time(int b, int to) {
        int far = Math.abs(s.brokers.get(b).acre() - to);
        int t = 0;
        while (t * s.brokers.get(b).pace() < far) {
            t++;
        }
        return t;
    }

    int meet(int b, int o) {
        index(b, s.brokers.size());
        index(o, s.brokers.size());
        iae(b == o);
        int best = 0;
        for (int a = 0; a < 16; a++) {
            if (Math.max(time(b, a), time(o, a)) < Math.max(time(b, best), time(o, best))) {
                best = a;
            }
        }
        return best;
    }

    private int[] bestWay;
    private int bestMinutes;

    private void ways(byte[] places, int[] way, int k) {
        if (k == way.length) {
            int sum = 0;
            for (int b = 0; b < k; b++) {
                sum += time(b, places[way[b]]);
            }
            if (bestWay == null || sum < bestMinutes) {
                bestWay = way.clone();
                bestMinutes = sum;
            }
            return;
        }
        for (int p = 0; p < way.length; p++) {
            boolean free = true;
            for (int b = 0; b < k; b++) {
                free &= way[b] != p;
            }
            if (free) {
                way[k] = p;
                ways(places, way, k + 1);
            }
        }
    }

    int send(int b) {
        byte[] places = useTape();
        if (b != NONE) {
            index(b, s.brokers.size());
        }
        iae(places.length != s.brokers.size());
        for (byte p : places) {
            iae((p & 255) > 15);
        }
        bestWay = null;
        ways(places, new int[places.length], 0);
        return b == NONE ? bestMinutes : bestWay[b];
    }

    int rush(int a) {
        acre(a);
        int best = NONE;
        for (int b = 0; b < s.brokers.size(); b++) {
            best = best == NONE || time(b, a) < time(best, a) ? b : best;
        }
        return best;
    }

    private List<Integer> fitting(int m) {
        byte[] told = useTape();
        minute(m);
        iae(told.length > 40 || told.length % 2 == 1);
        for (int i = 0; i < told.length; i += 2) {
            iae((told[i] & 255) > 15 || (told[i + 1] & 255) > 1);
        }
        List<Integer> sets = new ArrayList<>();
        for (int set = 0; set < 1 << s.showers.size(); set++) {
            boolean fits = true;
            for (int i = 0; i < s.showers.size(); i++) {
                boolean in = (set >> i & 1) == 1;
                fits &= s.showers.get(i).state() == 0 || in == (s.showers.get(i).state() == 1);
            }
            for (int i = 0; i < told.length; i += 2) {
                fits &= wetIn(set, told[i], m) == (told[i + 1] == 1);
            }
            if (fits) {
                sets.add(set);
            }
        }
        return sets;
    }

    private boolean wetIn(int set, int a, int m) {
        for (int i = 0; i < s.showers.size(); i++) {
            if ((set >> i & 1) == 1 && s.showers.get(i).liesOver(a, m)) {
                return true;
            }
        }
        return false;
    }

    int seen(int m, boolean sure) {
        List<Integer> sets = fitting(m);
        if (!sure) {
            return sets.size();
        }
        return sets.isEmpty() ? 0 : bits(s.showers.size(), i -> sets.stream().allMatch(v -> (v >> i & 1) == 1));
    }

    int ask(int m) {
        List<Integer> sets = fitting(m);
        if (sets.size() < 2) {
            return NONE;
        }
        int best = NONE;
        int least = 1000;
        for (int a = 0; a < 16; a++) {
            int acre = a;
            int wet = (int) sets.stream().filter(v -> wetIn(v, acre, m)).count();
            int greater = Math.max(wet, sets.size() - wet);
            if (greater < least) {
                least = greater;
                best = a;
            }
        }
        return best;
    }

    int spray(int m) {
        minute(m);
        return bits(16, a -> {
            boolean some = false;
            for (int from = 0; from < 16; from++) {
                some |= footOf(from, m) == a;
            }
            return s.many(a, m) > 0 && !some;
        });
    }

    int both(int a, int o, int m, int n) {
        acre(a);
        acre(o);
        iae(a == o || n < 1 || n > 96);
        minute(m);
        int sum = 0;
        for (int i = m; i < m + n; i++) {
            sum += s.arch(a, i) && s.arch(o, i) ? 1 : 0;
        }
        return sum;
    }

    private int has(int who, int mine, int theirs) {
        return (mine == theirs ? hope(mine) / 2 : hope(mine)) - s.costs(who, mine);
    }

    int rests(int b, int o, int x, int y) {
        index(b, s.brokers.size());
        index(o, s.brokers.size());
        index(x, s.deeds.size());
        index(y, s.deeds.size());
        iae(b == o || x == y);
        int[] d = {x, y};
        return bits(4, c -> has(b, d[c / 2], d[c % 2]) >= has(b, d[1 - c / 2], d[c % 2])
                && has(o, d[c % 2], d[c / 2]) >= has(o, d[1 - c % 2], d[c / 2]));
    }

    int row(int d, int m, int k) {
        iae(d < 1 || d > 20);
        minute(m);
        List<Integer> row = new ArrayList<>();
        for (int i = m; i < m + 96; i++) {
            if (s.arch(s.road, i) && (row.isEmpty() || i - row.get(row.size() - 1) >= d)) {
                row.add(i);
            }
        }
        return k == NONE ? row.size() : k >= 0 && k < row.size() ? row.get(k) : NONE;
    }

    int dry() {
        for (int n = 0; n <= 200; n++) {
            int then = s.minute + n;
            if (s.showers.stream().allMatch(h -> h.state() == 2 || h.to() < then)) {
                return n;
            }
        }
        return NONE;
    }

    int rich() {
        int best = NONE;
        for (int b = 0; b < s.brokers.size(); b++) {
            best = best == NONE || s.worth(b) > s.worth(best) ? b : best;
        }
        return best;
    }

    int clash() {
        int sum = 0;
        for (int i = 0; i < s.deeds.size(); i++) {
            for (int j = i + 1; j < s.deeds.size(); j++) {
                boolean common = false;
                for (int m = 0; m < 1000; m++) {
                    common |= s.deeds.get(i).has(m) && s.deeds.get(j).has(m);
                }
                sum += common && s.deeds.get(i).acre() == s.deeds.get(j).acre() ? 1 : 0;
            }
        }
        return sum;
    }

    int ahead(int b, int n) {
        index(b, s.brokers.size());
        iae(n < 0 || n > 200);
        State c = s.copy();
        c.minutes(n, false);
        return c.brokers.get(b).purse();
    }

    int trial(int n, boolean purses) {
        iae(n < 0 || n > 100);
        State c = s.copy();
        int often = c.minutes(n, true);
        return purses ? c.purses() : often;
    }

    int span(int n, boolean most) {
        iae(n < 0 || n > 100);
        List<Integer> often = new ArrayList<>();
        for (int seed = 1; seed <= 6; seed++) {
            State c = s.copy();
            c.seed = seed;
            often.add(c.minutes(n, true));
        }
        return most ? java.util.Collections.max(often) : java.util.Collections.min(often);
    }

    int led(int a, boolean minute) {
        acre(a);
        List<int[]> rows = s.log.stream().filter(r -> r[2] == a).toList();
        return !minute ? rows.size() : rows.isEmpty() ? NONE : rows.get(0)[0];
    }

    int log(int ago, int what) {
        pick(what, 0, 0, 0, 0);
        return ago < 0 || ago >= s.log.size() ? NONE : s.log.get(ago)[what];
    }

    int seed(int n) {
        int was = s.seed;
        s.seed = n;
        return was;
    }

    boolean undo() {
        if (acts.isEmpty()) {
            return false;
        }
        s = acts.pop();
        return true;
    }

    void image() {
        image = s.copy();
    }

    boolean back() {
        if (image == null) {
            return false;
        }
        s = image.copy();
        acts.clear();
        return true;
    }

    int count(int what) {
        int[] answers = {s.showers.size(), s.brokers.size(), s.deeds.size(), s.texts,
            s.law == null ? NONE : s.law.size(), s.minute, s.road, s.wage, s.purses(),
            bits(s.deeds.size(), d -> s.deeds.get(d).owner() != NONE), s.log.size(), acts.size()};
        return what < 0 || what >= answers.length ? NONE : answers[what];
    }
}
