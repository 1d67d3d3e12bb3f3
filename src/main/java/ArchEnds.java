import java.util.NoSuchElementException;

/** A county that sells the ground under a rainbow's foot; ../shared/DOC.md says what each call answers. */
public final class ArchEnds {
    public static final int NONE = -1;

    private static final int ACRES = 16;
    private static final int MOST_SHOWERS = 6;
    private static final int MOST_BROKERS = 5;
    private static final int MOST_DEEDS = 8;
    private static final int MOST_TEXTS = 12;
    private static final int MOST_COUNTY_LINES = 14;
    private static final int MOST_LAW_LINES = 12;
    private static final int MOST_DEEP = 6;
    private static final int MOST_PURSE = 9999;
    private static final int MOST_TOLD = 999;
    private static final int LAST_MINUTE = 9999;
    private static final int DAY = 96;
    private static final int NOON = 48;
    private static final int HIGHEST_SUN = 42;
    private static final int SUN_OF_AN_ACRE = 6;
    private static final int TAPE_BYTES = 400;
    private static final int SEEN_BYTES = 40;
    private static final int ACTS_KEPT = 12;
    private static final int SURELY = 10000;

    private static final int NOT_KNOWN = 0;
    private static final int COMES = 1;
    private static final int STAYS_AWAY = 2;

    /** Codes of a law's steps: below FACT a number, from FACT on one of a case's FACTS, from NEGATE on what is done. */
    private static final int FACT = 1000;
    private static final int FACTS = 8;
    private static final int NEGATE = 1100;
    private static final int ADD = 1101;
    private static final int BELOW = 1102;
    private static final int ABOVE = 1103;
    private static final int ALL_OF = 1104;
    private static final int ANY_OF = 1105;

    private static final Sign[] SIGNS = Sign.values();

    private final Tape tape = new Tape();
    private final Reader reader = new Reader(tape);
    private final County now = new County();
    private final County spare = new County();
    private final County kept = new County();
    private final County[] past = new County[ACTS_KEPT];
    private final Forecast forecast = new Forecast(now);
    private final Market market = new Market(now, forecast);
    private boolean hasImage;
    private int oldest;
    private int remembered;
    private int fault = NONE;

    public ArchEnds() {
        for (int i = 0; i < past.length; i++) {
            past[i] = new County();
        }
    }

    // ---- the tape and the texts

    public int feed(int a, int b, int c, int d, int e) {
        if (tape.length + 20 > TAPE_BYTES) {
            return NONE;
        }
        tape.append(a);
        tape.append(b);
        tape.append(c);
        tape.append(d);
        tape.append(e);
        return tape.length;
    }

    public boolean end(int n) {
        if (n < 0 || n > tape.length) {
            return false;
        }
        tape.length = n;
        return true;
    }

    public int county() throws IllegalArgumentException, UnsupportedOperationException {
        spare.copyFrom(now);
        tape.split();
        boolean right = reader.readCounty(spare);
        closeText(right);
        if (!right) {
            throw new IllegalArgumentException("the text of the county is wrong");
        }
        if (now.texts >= MOST_TEXTS) {
            throw new UnsupportedOperationException("there are 12 texts");
        }
        spare.texts++;
        now.copyFrom(spare);
        forgetActs();
        return now.texts;
    }

    public int law() throws IllegalArgumentException {
        tape.split();
        Law told = reader.readLaw();
        closeText(told != null);
        if (told == null) {
            throw new IllegalArgumentException("the text of the law is wrong");
        }
        now.law = told;
        forgetActs();
        return told.lines;
    }

    public int fault() {
        return fault;
    }

    /** A reader stops at the first thing that cannot stand where it stands. */
    private void closeText(boolean right) {
        fault = right ? NONE : tape.nextBegin();
        tape.length = 0;
    }

    // ---- what there is

    public int shower(int shower, int what) throws IndexOutOfBoundsException, NoSuchElementException {
        checkShower(shower);
        Shower told = now.showers[shower];
        switch (what) {
            case 0: return told.lowAcre;
            case 1: return told.highAcre;
            case 2: return told.firstMinute;
            case 3: return told.lastMinute;
            case 4: return told.drift + 2;
            case 5: return told.chance;
            case 6: return told.state;
            default: throw new NoSuchElementException("a shower has no such number");
        }
    }

    public int broker(int broker, int what) throws IndexOutOfBoundsException, NoSuchElementException {
        checkBroker(broker);
        Broker told = now.brokers[broker];
        switch (what) {
            case 0: return told.purse;
            case 1: return told.acre;
            case 2: return told.pace;
            case 3: return now.walkOf(broker);
            case 4: return now.deedsOf(broker);
            case 5: return now.worthOf(broker);
            default: throw new NoSuchElementException("a broker has no such number");
        }
    }

    public int deed(int deed, int what) throws IndexOutOfBoundsException, NoSuchElementException {
        checkDeed(deed);
        Deed told = now.deeds[deed];
        switch (what) {
            case 0: return told.acre;
            case 1: return told.firstMinute;
            case 2: return told.lastMinute;
            case 3: return told.price;
            case 4: return told.owner;
            case 5: return told.wet;
            case 6: return told.insured ? 1 : 0;
            default: throw new NoSuchElementException("a deed has no such number");
        }
    }

    public int costs(int broker, int deed) throws IndexOutOfBoundsException {
        checkBroker(broker);
        checkDeed(deed);
        return now.costFor(broker, deed);
    }

    public int brings(int broker, int deed, int minute) throws IndexOutOfBoundsException, IllegalArgumentException {
        checkBroker(broker);
        checkDeed(deed);
        checkMinute(minute);
        return now.payFor(broker, deed, minute);
    }

    // ---- the acts

    public int buy(int broker, int deed) throws IndexOutOfBoundsException, IllegalStateException {
        checkBroker(broker);
        checkDeed(deed);
        Deed bought = now.deeds[deed];
        Broker buyer = now.brokers[broker];
        int cost = now.costFor(broker, deed);
        if (bought.owner != NONE || buyer.purse < cost) {
            throw new IllegalStateException("the deed has an owner, or the purse is less");
        }
        remember();
        buyer.purse -= cost;
        bought.owner = broker;
        bought.wet = 0;
        bought.insured = false;
        return buyer.purse;
    }

    public int sell(int deed, int broker)
            throws IndexOutOfBoundsException, IllegalArgumentException, IllegalStateException {
        checkDeed(deed);
        checkBroker(broker);
        Deed sold = now.deeds[deed];
        if (sold.owner == broker) {
            throw new IllegalArgumentException("that broker is the owner");
        }
        Broker seller = now.ownerOf(sold);
        Broker buyer = now.brokers[broker];
        int cost = now.costFor(broker, deed);
        if (seller == null || buyer.purse < cost) {
            throw new IllegalStateException("the deed has no owner, or the purse is less");
        }
        remember();
        buyer.purse -= cost;
        seller.earn(cost);
        sold.owner = broker;
        return cost;
    }

    public int go(int broker, int acre) throws IndexOutOfBoundsException, IllegalArgumentException {
        checkBroker(broker);
        checkAcre(acre);
        Broker walker = now.brokers[broker];
        int far = apart(walker.acre, acre);
        if (far > now.walkOf(broker)) {
            throw new IllegalArgumentException("that is more than the broker walks by");
        }
        remember();
        walker.acre = acre;
        return far;
    }

    public int tell(int shower, int state) throws IndexOutOfBoundsException, IllegalArgumentException {
        checkShower(shower);
        if (state < NOT_KNOWN || state > STAYS_AWAY) {
            throw new IllegalArgumentException("there is no such state");
        }
        remember();
        int before = now.showers[shower].state;
        now.showers[shower].state = state;
        return before;
    }

    public int road(int acre) throws IndexOutOfBoundsException {
        checkAcre(acre);
        remember();
        int before = now.road;
        now.road = acre;
        return before;
    }

    public int insure(int deed) throws IndexOutOfBoundsException, IllegalStateException {
        checkDeed(deed);
        Deed insured = now.deeds[deed];
        Broker owner = now.ownerOf(insured);
        if (owner == null || insured.insured || owner.purse < now.wage) {
            throw new IllegalStateException("the deed has no owner, is insured, or the purse is less");
        }
        remember();
        owner.purse -= now.wage;
        insured.insured = true;
        return owner.purse;
    }

    public int minutes(int n) throws IllegalArgumentException {
        checkNumber(n, 1, 100);
        remember();
        return now.passMinutes(n, true);
    }

    // ---- the sky

    public int sun(int minute) throws IllegalArgumentException {
        checkMinute(minute);
        return sunAt(minute);
    }

    public int reach(int minute) throws IllegalArgumentException {
        checkMinute(minute);
        return reachAt(minute);
    }

    public int foot(int acre, int minute) throws IndexOutOfBoundsException, IllegalArgumentException {
        checkAcre(acre);
        checkMinute(minute);
        return footFrom(acre, minute);
    }

    public boolean arch(int acre, int minute) throws IndexOutOfBoundsException, IllegalArgumentException {
        checkAcre(acre);
        checkMinute(minute);
        return now.archFrom(acre, minute) != NONE;
    }

    public int wets(int acre, int minute) throws IndexOutOfBoundsException, IllegalArgumentException {
        checkAcre(acre);
        checkMinute(minute);
        return now.wettersOf(acre, minute);
    }

    public int looks(int acre, int minute) throws IndexOutOfBoundsException, IllegalArgumentException {
        checkAcre(acre);
        checkMinute(minute);
        return forecast.looksAt(acre, minute);
    }

    public int stands(int acre, int minute, int n) throws IndexOutOfBoundsException, IllegalArgumentException {
        checkAcre(acre);
        checkMinute(minute);
        checkNumber(n, 1, DAY);
        return forecast.standsOn(acre, minute, n);
    }

    public int best(int minute, int n) throws IllegalArgumentException {
        checkMinute(minute);
        checkNumber(n, 1, DAY);
        return forecast.bestAcre(minute, n);
    }

    public int first(int acre, int minute) throws IndexOutOfBoundsException, IllegalArgumentException {
        checkAcre(acre);
        checkMinute(minute);
        return forecast.firstOn(acre, minute);
    }

    public int site(int acre, int minute, int n) throws IndexOutOfBoundsException, IllegalArgumentException {
        checkAcre(acre);
        checkMinute(minute);
        checkNumber(n, 1, DAY);
        return forecast.siteOf(acre, minute, n);
    }

    public int odds(int acre, int minute) throws IndexOutOfBoundsException, IllegalArgumentException {
        checkAcre(acre);
        checkMinute(minute);
        return forecast.oddsOf(acre, minute);
    }

    public int hope(int deed) throws IndexOutOfBoundsException {
        checkDeed(deed);
        return forecast.hopeOf(now.deeds[deed]);
    }

    // ---- the market

    public int gain(int broker, int deed) throws IndexOutOfBoundsException {
        checkBroker(broker);
        checkDeed(deed);
        return market.gainOf(broker, deed);
    }

    public int deals(int broker, boolean much) throws IndexOutOfBoundsException {
        checkBroker(broker);
        int set = market.bestDeals(broker);
        return much ? market.gainsTogether(set) : set;
    }

    public int meet(int broker, int other) throws IndexOutOfBoundsException, IllegalArgumentException {
        checkBroker(broker);
        checkBroker(other);
        checkTwo(broker, other);
        return market.meetingAcre(now.brokers[broker], now.brokers[other]);
    }

    public int send(int broker) throws IndexOutOfBoundsException, IllegalArgumentException {
        boolean told = market.takePlaces(tape);
        tape.length = 0;
        if (broker != NONE) {
            checkBroker(broker);
        }
        if (!told) {
            throw new IllegalArgumentException("the tape does not tell an acre for each broker");
        }
        market.planWays();
        return broker == NONE ? market.fewestMinutes() : market.placeOf(broker);
    }

    public int rush(int acre) throws IndexOutOfBoundsException {
        checkAcre(acre);
        return market.firstBrokerOn(acre);
    }

    public int seen(int minute, boolean sure) throws IllegalArgumentException {
        takeSights(minute);
        return sure ? forecast.sureShowers(minute) : forecast.fittingSets(minute);
    }

    public int ask(int minute) throws IllegalArgumentException {
        takeSights(minute);
        return forecast.tellingAcre(minute);
    }

    private void takeSights(int minute) {
        boolean told = forecast.takeSights(tape);
        tape.length = 0;
        if (!told) {
            throw new IllegalArgumentException("the tape does not tell acres that were wet or not");
        }
        checkMinute(minute);
    }

    public int spray(int minute) throws IllegalArgumentException {
        checkMinute(minute);
        return forecast.sprayAt(minute);
    }

    public int both(int acre, int other, int minute, int n)
            throws IndexOutOfBoundsException, IllegalArgumentException {
        checkAcre(acre);
        checkAcre(other);
        checkTwo(acre, other);
        checkMinute(minute);
        checkNumber(n, 1, DAY);
        return forecast.bothFrom(acre, other, minute, n);
    }

    public int rests(int broker, int other, int a, int b)
            throws IndexOutOfBoundsException, IllegalArgumentException {
        checkBroker(broker);
        checkBroker(other);
        checkDeed(a);
        checkDeed(b);
        checkTwo(broker, other);
        checkTwo(a, b);
        return market.restingChoices(broker, other, a, b);
    }

    public int row(int d, int minute, int k) throws IllegalArgumentException {
        checkNumber(d, 1, 20);
        checkMinute(minute);
        return forecast.weddings(d, minute, k);
    }

    public int dry() {
        return forecast.minutesToDry();
    }

    public int rich() {
        return market.richest();
    }

    public int clash() {
        return market.clashes();
    }

    // ---- what would be

    public int ahead(int broker, int n) throws IndexOutOfBoundsException, IllegalArgumentException {
        checkBroker(broker);
        checkNumber(n, 0, 200);
        spare.copyFrom(now);
        spare.passMinutes(n, false);
        return spare.brokers[broker].purse;
    }

    public int trial(int n, boolean purses) throws IllegalArgumentException {
        checkNumber(n, 0, 100);
        int often = tryOut(n, now.seed);
        return purses ? spare.pursesTogether() : often;
    }

    public int span(int n, boolean most) throws IllegalArgumentException {
        checkNumber(n, 0, 100);
        int span = tryOut(n, 1);
        for (int seed = 2; seed <= 6; seed++) {
            int often = tryOut(n, seed);
            if (most ? often > span : often < span) {
                span = often;
            }
        }
        return span;
    }

    private int tryOut(int n, int seed) {
        spare.copyFrom(now);
        spare.seed = seed;
        return spare.passMinutes(n, true);
    }

    // ---- the log, the seed, what is undone and gone back to

    public int led(int acre, boolean minute) throws IndexOutOfBoundsException {
        checkAcre(acre);
        return minute ? now.log.latestMinuteOf(acre) : now.log.rowsOf(acre);
    }

    public int log(int ago, int what) throws NoSuchElementException {
        if (what < 0 || what >= LogBook.COLUMNS) {
            throw new NoSuchElementException("a row of the log has no such number");
        }
        return now.log.entry(ago, what);
    }

    public int seed(int n) {
        int before = now.seed;
        now.seed = n;
        return before;
    }

    public boolean undo() {
        if (remembered == 0) {
            return false;
        }
        remembered--;
        now.copyFrom(past[(oldest + remembered) % ACTS_KEPT]);
        return true;
    }

    public void image() {
        kept.copyFrom(now);
        hasImage = true;
    }

    public boolean back() {
        if (!hasImage) {
            return false;
        }
        now.copyFrom(kept);
        forgetActs();
        return true;
    }

    public int count(int what) {
        switch (what) {
            case 0: return now.showerCount;
            case 1: return now.brokerCount;
            case 2: return now.deedCount;
            case 3: return now.texts;
            case 4: return now.law == null ? NONE : now.law.lines;
            case 5: return now.minute;
            case 6: return now.road;
            case 7: return now.wage;
            case 8: return now.pursesTogether();
            case 9: return now.ownedDeeds();
            case 10: return now.log.size;
            case 11: return remembered;
            default: return NONE;
        }
    }

    /** Called when an act is sure to happen, ahead of its first change. */
    private void remember() {
        past[(oldest + remembered) % ACTS_KEPT].copyFrom(now);
        if (remembered < ACTS_KEPT) {
            remembered++;
        } else {
            oldest = (oldest + 1) % ACTS_KEPT;
        }
    }

    private void forgetActs() {
        oldest = 0;
        remembered = 0;
    }

    // ---- what a call may be told

    private static void checkAcre(int acre) {
        if (acre < 0 || acre >= ACRES) {
            throw new IndexOutOfBoundsException("there is no such acre");
        }
    }

    private void checkShower(int shower) {
        if (shower < 0 || shower >= now.showerCount) {
            throw new IndexOutOfBoundsException("there is no such shower");
        }
    }

    private void checkBroker(int broker) {
        if (broker < 0 || broker >= now.brokerCount) {
            throw new IndexOutOfBoundsException("there is no such broker");
        }
    }

    private void checkDeed(int deed) {
        if (deed < 0 || deed >= now.deedCount) {
            throw new IndexOutOfBoundsException("there is no such deed");
        }
    }

    private static void checkMinute(int minute) {
        checkNumber(minute, 0, LAST_MINUTE);
    }

    private static void checkNumber(int number, int least, int most) {
        if (number < least || number > most) {
            throw new IllegalArgumentException("the number is none");
        }
    }

    private static void checkTwo(int one, int other) {
        if (one == other) {
            throw new IllegalArgumentException("both are one");
        }
    }

    // ---- sun, reach and foot

    private static int sunAt(int minute) {
        int hour = minute % DAY;
        return hour < NOON ? hour : DAY - hour;
    }

    private static int reachAt(int minute) {
        int sun = sunAt(minute);
        return sun == 0 || sun > HIGHEST_SUN ? NONE : (HIGHEST_SUN - sun) / SUN_OF_AN_ACRE;
    }

    private static int footFrom(int acre, int minute) {
        int reach = reachAt(minute);
        if (reach == NONE) {
            return NONE;
        }
        int foot = minute % DAY < NOON ? acre - reach : acre + reach;
        return foot >= 0 && foot < ACRES ? foot : NONE;
    }

    private static int apart(int acre, int other) {
        return acre < other ? other - acre : acre - other;
    }

    private static boolean isIn(int set, int number) {
        return (set >> number & 1) != 0;
    }

    /** The words and signs of both texts; code is what a word or sign does as a step of a law. */
    private enum Sign {
        SHOWER("shower", 0), BROKER("broker", 0), DEED("deed", 0),
        ROAD("road", 0), WAGE("wage", 0), MINUTE("minute", 0),
        TO("to", 0), FROM("from", 0), EAST("east", 0), WEST("west", 0), CHANCE("chance", 0),
        AT("at", 0), PACE("pace", 0), PRICE("price", 0),
        COST("cost", 0), BRING("bring", 0), SLOW("slow", 0), IF("if", 0),
        ACRE("acre", FACT), SUN("sun", FACT + 1), REACH("reach", FACT + 2), HOUR("hour", FACT + 3),
        MANY("many", FACT + 4), WHO("who", FACT + 5), WET("wet", FACT + 6), OWNED("owned", FACT + 7),
        NOT("not", NEGATE), PLUS("+", ADD), LESS("<", BELOW), MORE(">", ABOVE), AND("and", ALL_OF), OR("or", ANY_OF),
        OPEN("(", 0), CLOSE(")", 0), SEMICOLON(";", 0),
        NUMBER("", 0), WRONG("", 0), END("", 0);

        final String text;
        final int code;

        Sign(String text, int code) {
            this.text = text;
            this.code = code;
        }
    }

    /** The bytes that were fed, and the things that a text is made of, each with its first byte. */
    private static final class Tape {
        private static final int BLANK = 32;
        private static final int LETTER = 1;
        private static final int DIGIT = 2;
        private static final int OTHER = 3;
        private static final int MOST_DIGITS = 3;

        final int[] bytes = new int[TAPE_BYTES];
        int length;
        private final Sign[] signs = new Sign[TAPE_BYTES + 1];
        private final int[] begins = new int[TAPE_BYTES + 1];
        private final int[] sizes = new int[TAPE_BYTES + 1];
        private int things;
        private int at;
        /** The number that was passed latest. */
        int number;

        void append(int four) {
            for (int shift = 24; shift >= 0 && length < bytes.length; shift -= 8) {
                bytes[length] = four >>> shift & 255;
                length++;
            }
        }

        /** Parts the tape into things; the one behind the last is END, at the text's length. */
        void split() {
            things = 0;
            at = 0;
            int before = OTHER;
            for (int i = 0; i < length; i++) {
                int kind = kindOf(bytes[i]);
                if (kind != OTHER && kind != BLANK && kind == before) {
                    sizes[things - 1]++;
                } else if (kind != BLANK) {
                    begins[things] = i;
                    sizes[things] = 1;
                    things++;
                }
                before = kind;
            }
            for (int i = 0; i < things; i++) {
                signs[i] = signOf(begins[i], sizes[i]);
            }
            signs[things] = Sign.END;
            begins[things] = length;
        }

        private static int kindOf(int sign) {
            if (sign == BLANK) {
                return BLANK;
            }
            if (sign >= 'a' && sign <= 'z') {
                return LETTER;
            }
            return sign >= '0' && sign <= '9' ? DIGIT : OTHER;
        }

        private Sign signOf(int begin, int size) {
            if (kindOf(bytes[begin]) == DIGIT) {
                return size <= MOST_DIGITS ? Sign.NUMBER : Sign.WRONG;
            }
            for (int i = 0; i < SIGNS.length; i++) {
                if (matches(SIGNS[i].text, begin, size)) {
                    return SIGNS[i];
                }
            }
            return Sign.WRONG;
        }

        private boolean matches(String text, int begin, int size) {
            if (text.length() != size) {
                return false;
            }
            for (int i = 0; i < size; i++) {
                if (text.charAt(i) != bytes[begin + i]) {
                    return false;
                }
            }
            return true;
        }

        Sign next() {
            return signs[at];
        }

        int nextBegin() {
            return begins[at];
        }

        boolean pass(Sign sign) {
            if (signs[at] != sign || at >= things) {
                return false;
            }
            at++;
            return true;
        }

        boolean passNumber(int least, int most) {
            if (signs[at] != Sign.NUMBER) {
                return false;
            }
            int value = 0;
            for (int i = 0; i < sizes[at]; i++) {
                value = 10 * value + bytes[begins[at] + i] - '0';
            }
            if (value < least || value > most) {
                return false;
            }
            number = value;
            at++;
            return true;
        }
    }

    /** Reads what the tape was split into; where a reading answers false, the tape's next thing is the wrong one. */
    private static final class Reader {
        private final Tape tape;
        private final Sign[] heads = new Sign[MOST_LAW_LINES];
        private final int[] amounts = new int[MOST_LAW_LINES];
        private final int[] ends = new int[MOST_LAW_LINES];
        private final int[] steps = new int[TAPE_BYTES];
        private int size;

        Reader(Tape tape) {
            this.tape = tape;
        }

        boolean readCounty(County county) {
            if (tape.next() == Sign.END) {
                return true;
            }
            for (int i = 0; i < MOST_COUNTY_LINES; i++) {
                if (!readCountyLine(county)) {
                    return false;
                }
                if (tape.next() == Sign.END) {
                    return true;
                }
                if (!tape.pass(Sign.SEMICOLON)) {
                    return false;
                }
            }
            return false;
        }

        private boolean readCountyLine(County county) {
            Sign head = tape.next();
            if (head == Sign.SHOWER) {
                return county.showerCount < MOST_SHOWERS && readShower(county);
            }
            if (head == Sign.BROKER) {
                return county.brokerCount < MOST_BROKERS && readBroker(county);
            }
            if (head == Sign.DEED) {
                return county.deedCount < MOST_DEEDS && readDeed(county);
            }
            if (tape.pass(Sign.ROAD)) {
                return readRoad(county);
            }
            if (tape.pass(Sign.WAGE)) {
                return readWage(county);
            }
            return tape.pass(Sign.MINUTE) && readMinute(county);
        }

        private boolean readShower(County county) {
            Shower told = county.showers[county.showerCount];
            if (!tape.pass(Sign.SHOWER) || !tape.passNumber(0, ACRES - 1)) {
                return false;
            }
            told.lowAcre = tape.number;
            if (!tape.pass(Sign.TO) || !tape.passNumber(told.lowAcre, ACRES - 1)) {
                return false;
            }
            told.highAcre = tape.number;
            if (!tape.pass(Sign.FROM) || !tape.passNumber(0, MOST_TOLD)) {
                return false;
            }
            told.firstMinute = tape.number;
            if (!tape.pass(Sign.TO) || !tape.passNumber(told.firstMinute, MOST_TOLD)) {
                return false;
            }
            told.lastMinute = tape.number;
            told.state = NOT_KNOWN;
            if (!readDrift(told) || !readChance(told)) {
                return false;
            }
            county.showerCount++;
            return true;
        }

        private boolean readDrift(Shower told) {
            told.drift = 0;
            boolean east = tape.pass(Sign.EAST);
            if (!east && !tape.pass(Sign.WEST)) {
                return true;
            }
            if (!tape.passNumber(0, 2)) {
                return false;
            }
            told.drift = east ? tape.number : -tape.number;
            return true;
        }

        private boolean readChance(Shower told) {
            told.chance = 100;
            if (!tape.pass(Sign.CHANCE)) {
                return true;
            }
            if (!tape.passNumber(0, 100)) {
                return false;
            }
            told.chance = tape.number;
            return true;
        }

        private boolean readBroker(County county) {
            Broker told = county.brokers[county.brokerCount];
            if (!tape.pass(Sign.BROKER) || !tape.passNumber(0, MOST_TOLD)) {
                return false;
            }
            told.purse = tape.number;
            if (!tape.pass(Sign.AT) || !tape.passNumber(0, ACRES - 1)) {
                return false;
            }
            told.acre = tape.number;
            if (!tape.pass(Sign.PACE) || !tape.passNumber(1, 4)) {
                return false;
            }
            told.pace = tape.number;
            county.brokerCount++;
            return true;
        }

        private boolean readDeed(County county) {
            Deed told = county.deeds[county.deedCount];
            if (!tape.pass(Sign.DEED) || !tape.passNumber(0, ACRES - 1)) {
                return false;
            }
            told.acre = tape.number;
            if (!tape.pass(Sign.FROM) || !tape.passNumber(0, MOST_TOLD)) {
                return false;
            }
            told.firstMinute = tape.number;
            if (!tape.pass(Sign.TO) || !tape.passNumber(told.firstMinute, MOST_TOLD)) {
                return false;
            }
            told.lastMinute = tape.number;
            if (!tape.pass(Sign.PRICE) || !tape.passNumber(0, MOST_TOLD)) {
                return false;
            }
            told.price = tape.number;
            told.owner = NONE;
            told.wet = 0;
            told.insured = false;
            county.deedCount++;
            return true;
        }

        private boolean readRoad(County county) {
            if (!tape.passNumber(0, ACRES - 1)) {
                return false;
            }
            county.road = tape.number;
            return true;
        }

        private boolean readWage(County county) {
            if (!tape.passNumber(0, 99)) {
                return false;
            }
            county.wage = tape.number;
            return true;
        }

        private boolean readMinute(County county) {
            if (!tape.passNumber(0, MOST_TOLD)) {
                return false;
            }
            county.minute = tape.number;
            return true;
        }

        /** The law that is told, or null. */
        Law readLaw() {
            size = 0;
            if (tape.next() == Sign.END) {
                return new Law(0, heads, amounts, ends, steps);
            }
            for (int i = 0; i < MOST_LAW_LINES; i++) {
                if (!readLawLine(i)) {
                    return null;
                }
                if (tape.next() == Sign.END) {
                    return new Law(i + 1, heads, amounts, ends, steps);
                }
                if (!tape.pass(Sign.SEMICOLON)) {
                    return null;
                }
            }
            return null;
        }

        private boolean readLawLine(int line) {
            Sign head = tape.next();
            if (head != Sign.COST && head != Sign.BRING && head != Sign.SLOW) {
                return false;
            }
            if (!tape.pass(head) || !tape.passNumber(0, 99)) {
                return false;
            }
            heads[line] = head;
            amounts[line] = tape.number;
            if (tape.pass(Sign.IF) && !readAny(0)) {
                return false;
            }
            ends[line] = size;
            return true;
        }

        private boolean readAny(int deep) {
            for (int i = 0; i < TAPE_BYTES; i++) {
                if (!readAll(deep)) {
                    return false;
                }
                if (i > 0) {
                    addStep(Sign.OR.code);
                }
                if (!tape.pass(Sign.OR)) {
                    return true;
                }
            }
            return false;
        }

        private boolean readAll(int deep) {
            for (int i = 0; i < TAPE_BYTES; i++) {
                if (!readAtom(deep)) {
                    return false;
                }
                if (i > 0) {
                    addStep(Sign.AND.code);
                }
                if (!tape.pass(Sign.AND)) {
                    return true;
                }
            }
            return false;
        }

        private boolean readAtom(int deep) {
            Sign sign = tape.next();
            if (sign == Sign.NOT || sign == Sign.OPEN) {
                if (deep >= MOST_DEEP || !tape.pass(sign)) {
                    return false;
                }
                if (sign == Sign.OPEN) {
                    return readAny(deep + 1) && tape.pass(Sign.CLOSE);
                }
                if (!readAtom(deep + 1)) {
                    return false;
                }
                addStep(Sign.NOT.code);
                return true;
            }
            if (sign == Sign.WET || sign == Sign.OWNED) {
                addStep(sign.code);
                return tape.pass(sign);
            }
            if (!readSum()) {
                return false;
            }
            Sign relation = tape.next();
            if (relation != Sign.LESS && relation != Sign.MORE) {
                return false;
            }
            if (!tape.pass(relation) || !readSum()) {
                return false;
            }
            addStep(relation.code);
            return true;
        }

        private boolean readSum() {
            for (int i = 0; i < TAPE_BYTES; i++) {
                Sign sign = tape.next();
                if (tape.passNumber(0, MOST_TOLD)) {
                    addStep(tape.number);
                } else if (sign.code >= FACT && sign.code < Sign.WET.code && tape.pass(sign)) {
                    addStep(sign.code);
                } else {
                    return false;
                }
                if (i > 0) {
                    addStep(Sign.PLUS.code);
                }
                if (!tape.pass(Sign.PLUS)) {
                    return true;
                }
            }
            return false;
        }

        /** A text of 400 bytes has no more steps than bytes. */
        private void addStep(int code) {
            if (size < steps.length) {
                steps[size] = code;
                size++;
            }
        }
    }

    /** Lines with conditions, each as steps on a stack; what it says never changes, so that counties may share it. */
    private static final class Law {
        final int lines;
        private final Sign[] heads;
        private final int[] amounts;
        private final int[] ends;
        private final int[] steps;
        private final int[] stack;

        Law(int lines, Sign[] heads, int[] amounts, int[] ends, int[] steps) {
            int size = lines == 0 ? 0 : ends[lines - 1];
            this.lines = lines;
            this.heads = new Sign[lines];
            this.amounts = new int[lines];
            this.ends = new int[lines];
            this.steps = new int[size];
            this.stack = new int[size + 1];
            for (int i = 0; i < lines; i++) {
                this.heads[i] = heads[i];
                this.amounts[i] = amounts[i];
                this.ends[i] = ends[i];
            }
            System.arraycopy(steps, 0, this.steps, 0, size);
        }

        int sumOf(Sign head, int[] facts) {
            int sum = 0;
            for (int i = 0; i < lines; i++) {
                if (heads[i] == head && holds(i, facts)) {
                    sum += amounts[i];
                }
            }
            return sum;
        }

        /** A line without steps has no condition. */
        private boolean holds(int line, int[] facts) {
            int top = 0;
            for (int i = line == 0 ? 0 : ends[line - 1]; i < ends[line]; i++) {
                int code = steps[i];
                if (code - FACT < facts.length && top < stack.length) {
                    stack[top] = code < FACT ? code : facts[code - FACT];
                    top++;
                } else if (code == NEGATE && top >= 1) {
                    stack[top - 1] = 1 - stack[top - 1];
                } else if (top >= 2) {
                    top--;
                    int left = stack[top - 1];
                    int right = stack[top];
                    switch (code) {
                        case ADD: stack[top - 1] = left + right; break;
                        case BELOW: stack[top - 1] = left < right ? 1 : 0; break;
                        case ABOVE: stack[top - 1] = left > right ? 1 : 0; break;
                        case ALL_OF: stack[top - 1] = left & right; break;
                        default: stack[top - 1] = left | right; break;
                    }
                }
            }
            return top == 0 || stack[0] != 0;
        }
    }

    private static final class Shower {
        int lowAcre;
        int highAcre;
        int firstMinute;
        int lastMinute;
        int drift;
        int chance;
        int state;

        void copyFrom(Shower other) {
            lowAcre = other.lowAcre;
            highAcre = other.highAcre;
            firstMinute = other.firstMinute;
            lastMinute = other.lastMinute;
            drift = other.drift;
            chance = other.chance;
            state = other.state;
        }

        /** The acres over which it lies, whatever its state, as bits. */
        int acresAt(int minute) {
            if (minute < firstMinute || minute > lastMinute) {
                return 0;
            }
            int moved = drift * ((minute - firstMinute) / 4);
            int low = lowAcre + moved < 0 ? 0 : lowAcre + moved;
            int high = highAcre + moved >= ACRES ? ACRES - 1 : highAcre + moved;
            if (low > high) {
                return 0;
            }
            return (2 << high) - (1 << low);
        }
    }

    private static final class Broker {
        int purse;
        int acre;
        int pace;

        void copyFrom(Broker other) {
            purse = other.purse;
            acre = other.acre;
            pace = other.pace;
        }

        void earn(int much) {
            purse = purse + much > MOST_PURSE ? MOST_PURSE : purse + much;
        }

        int minutesTo(int there) {
            int far = apart(acre, there);
            return pace < 1 ? far : (far + pace - 1) / pace;
        }
    }

    private static final class Deed {
        int acre;
        int firstMinute;
        int lastMinute;
        int price;
        int owner = NONE;
        int wet;
        boolean insured;

        void copyFrom(Deed other) {
            acre = other.acre;
            firstMinute = other.firstMinute;
            lastMinute = other.lastMinute;
            price = other.price;
            owner = other.owner;
            wet = other.wet;
            insured = other.insured;
        }

        boolean has(int minute) {
            return firstMinute <= minute && minute <= lastMinute;
        }
    }

    /** The latest rows, in a ring. */
    private static final class LogBook {
        static final int COLUMNS = 4;
        private static final int ROWS = 60;

        int size;
        private int next;
        private final int[] rows = new int[ROWS * COLUMNS];

        void copyFrom(LogBook other) {
            size = other.size;
            next = other.next;
            System.arraycopy(other.rows, 0, rows, 0, rows.length);
        }

        void add(int minute, int deed, int acre, int brought) {
            int at = next * COLUMNS;
            rows[at] = minute;
            rows[at + 1] = deed;
            rows[at + 2] = acre;
            rows[at + 3] = brought;
            next = (next + 1) % ROWS;
            size = size < ROWS ? size + 1 : ROWS;
        }

        int entry(int ago, int column) {
            if (ago < 0 || ago >= size) {
                return NONE;
            }
            return rows[(next + ROWS - 1 - ago) % ROWS * COLUMNS + column];
        }

        int rowsOf(int acre) {
            int sum = 0;
            for (int ago = 0; ago < size; ago++) {
                if (entry(ago, 2) == acre) {
                    sum++;
                }
            }
            return sum;
        }

        int latestMinuteOf(int acre) {
            for (int ago = 0; ago < size; ago++) {
                if (entry(ago, 2) == acre) {
                    return entry(ago, 0);
                }
            }
            return NONE;
        }
    }

    /** All that an act, a minute or a text changes: copies of it are trials, the image and what was ahead of acts. */
    private static final class County {
        final Shower[] showers = new Shower[MOST_SHOWERS];
        final Broker[] brokers = new Broker[MOST_BROKERS];
        final Deed[] deeds = new Deed[MOST_DEEDS];
        final LogBook log = new LogBook();
        int showerCount;
        int brokerCount;
        int deedCount;
        int texts;
        int road = 8;
        int wage = 5;
        int minute;
        int seed = 1;
        Law law;
        private final int[] facts = new int[FACTS];

        County() {
            for (int i = 0; i < showers.length; i++) {
                showers[i] = new Shower();
            }
            for (int i = 0; i < brokers.length; i++) {
                brokers[i] = new Broker();
            }
            for (int i = 0; i < deeds.length; i++) {
                deeds[i] = new Deed();
            }
        }

        void copyFrom(County other) {
            for (int i = 0; i < showers.length; i++) {
                showers[i].copyFrom(other.showers[i]);
            }
            for (int i = 0; i < brokers.length; i++) {
                brokers[i].copyFrom(other.brokers[i]);
            }
            for (int i = 0; i < deeds.length; i++) {
                deeds[i].copyFrom(other.deeds[i]);
            }
            log.copyFrom(other.log);
            showerCount = other.showerCount;
            brokerCount = other.brokerCount;
            deedCount = other.deedCount;
            texts = other.texts;
            road = other.road;
            wage = other.wage;
            minute = other.minute;
            seed = other.seed;
            law = other.law;
        }

        /** Showers that wet the acre, as bits. */
        int wettersOf(int acre, int when) {
            int set = 0;
            for (int i = 0; i < showerCount; i++) {
                if (showers[i].state != STAYS_AWAY && isIn(showers[i].acresAt(when), acre)) {
                    set |= 1 << i;
                }
            }
            return set;
        }

        /** The foot of the arch that one sees from the acre, or NONE. */
        int archFrom(int acre, int when) {
            int foot = footFrom(acre, when);
            return foot == NONE || wettersOf(foot, when) == 0 ? NONE : foot;
        }

        Broker ownerOf(Deed deed) {
            return deed.owner < 0 || deed.owner >= brokerCount ? null : brokers[deed.owner];
        }

        int ownedDeeds() {
            int set = 0;
            for (int i = 0; i < deedCount; i++) {
                if (deeds[i].owner != NONE) {
                    set |= 1 << i;
                }
            }
            return set;
        }

        int deedsOf(int broker) {
            int set = 0;
            for (int i = 0; i < deedCount; i++) {
                if (deeds[i].owner == broker) {
                    set |= 1 << i;
                }
            }
            return set;
        }

        int worthOf(int broker) {
            int sum = brokers[broker].purse;
            for (int i = 0; i < deedCount; i++) {
                if (deeds[i].owner == broker) {
                    sum += deeds[i].price;
                }
            }
            return sum;
        }

        int pursesTogether() {
            int sum = 0;
            for (int i = 0; i < brokerCount; i++) {
                sum += brokers[i].purse;
            }
            return sum;
        }

        int costFor(int broker, int deed) {
            return deeds[deed].price + judge(Sign.COST, deeds[deed].acre, minute, broker);
        }

        int payFor(int broker, int deed, int when) {
            return wage + judge(Sign.BRING, deeds[deed].acre, when, broker);
        }

        int walkOf(int broker) {
            int walk = brokers[broker].pace - judge(Sign.SLOW, brokers[broker].acre, minute, broker);
            return walk < 0 ? 0 : walk;
        }

        /** What the law's lines of that head say together of an acre, a minute and a broker. */
        private int judge(Sign head, int acre, int when, int broker) {
            if (law == null) {
                return 0;
            }
            int reach = reachAt(when);
            int many = Integer.bitCount(wettersOf(acre, when));
            facts[Sign.ACRE.code - FACT] = acre;
            facts[Sign.SUN.code - FACT] = sunAt(when);
            facts[Sign.REACH.code - FACT] = reach == NONE ? 0 : reach;
            facts[Sign.HOUR.code - FACT] = when % DAY;
            facts[Sign.MANY.code - FACT] = many;
            facts[Sign.WHO.code - FACT] = broker;
            facts[Sign.WET.code - FACT] = many > 0 ? 1 : 0;
            facts[Sign.OWNED.code - FACT] = isOwned(acre, when) ? 1 : 0;
            return law.sumOf(head, facts);
        }

        private boolean isOwned(int acre, int when) {
            for (int i = 0; i < deedCount; i++) {
                if (deeds[i].owner != NONE && deeds[i].acre == acre && deeds[i].has(when)) {
                    return true;
                }
            }
            return false;
        }

        /** How often an arch stood on a deed; without draws each shower comes that is not known to stay away. */
        int passMinutes(int n, boolean drawn) {
            int often = 0;
            for (int i = 0; i < n; i++) {
                if (drawn) {
                    drawShowers();
                }
                often += settleDeeds();
                if (minute < LAST_MINUTE) {
                    minute++;
                }
            }
            return often;
        }

        private void drawShowers() {
            for (int i = 0; i < showerCount; i++) {
                if (showers[i].state == NOT_KNOWN && showers[i].firstMinute == minute) {
                    seed = 1103515245 * seed + 12345;
                    int draw = seed >>> 16 & 32767;
                    showers[i].state = draw % 100 < showers[i].chance ? COMES : STAYS_AWAY;
                }
            }
        }

        private int settleDeeds() {
            int stood = 0;
            int ground = archFrom(road, minute);
            for (int i = 0; i < deedCount; i++) {
                Deed deed = deeds[i];
                Broker owner = ownerOf(deed);
                if (owner == null || !deed.has(minute)) {
                    continue;
                }
                if (deed.acre == ground) {
                    int brought = payFor(deed.owner, i, minute);
                    deed.wet++;
                    owner.earn(brought);
                    log.add(minute, i, ground, brought);
                    stood++;
                }
                if (deed.insured && deed.lastMinute == minute && deed.wet == 0) {
                    owner.earn(deed.price);
                }
            }
            return stood;
        }
    }

    /** Questions about showers and feet of arches. */
    private static final class Forecast {
        private static final int FIRST_MINUTES = 200;
        private static final int MOST_DRY = 200;

        private final County county;
        private final int[] stood = new int[ACRES];
        private int toldWet;
        private int toldDry;

        Forecast(County county) {
            this.county = county;
        }

        int looksAt(int acre, int minute) {
            int set = 0;
            for (int from = 0; from < ACRES; from++) {
                if (county.archFrom(from, minute) == acre) {
                    set |= 1 << from;
                }
            }
            return set;
        }

        int standsOn(int acre, int minute, int n) {
            int sum = 0;
            for (int m = minute; m < minute + n; m++) {
                if (county.archFrom(county.road, m) == acre) {
                    sum++;
                }
            }
            return sum;
        }

        int bestAcre(int minute, int n) {
            clearStood();
            for (int m = minute; m < minute + n; m++) {
                int foot = county.archFrom(county.road, m);
                if (foot != NONE) {
                    stood[foot]++;
                }
            }
            return firstOfMost();
        }

        int siteOf(int acre, int minute, int n) {
            clearStood();
            for (int m = minute; m < minute + n; m++) {
                if (county.wettersOf(acre, m) != 0) {
                    countRoadsTo(acre, m);
                }
            }
            return firstOfMost();
        }

        private void countRoadsTo(int acre, int minute) {
            for (int from = 0; from < ACRES; from++) {
                if (footFrom(from, minute) == acre) {
                    stood[from]++;
                }
            }
        }

        private void clearStood() {
            for (int i = 0; i < ACRES; i++) {
                stood[i] = 0;
            }
        }

        private int firstOfMost() {
            int most = 0;
            for (int i = 1; i < ACRES; i++) {
                if (stood[i] > stood[most]) {
                    most = i;
                }
            }
            return most;
        }

        int firstOn(int acre, int minute) {
            for (int m = minute; m < minute + FIRST_MINUTES; m++) {
                if (county.archFrom(county.road, m) == acre) {
                    return m;
                }
            }
            return NONE;
        }

        int oddsOf(int acre, int minute) {
            long whole = 1;
            long dry = 1;
            for (int i = 0; i < county.showerCount; i++) {
                Shower shower = county.showers[i];
                if (shower.state != STAYS_AWAY && isIn(shower.acresAt(minute), acre)) {
                    if (shower.state == COMES) {
                        return SURELY;
                    }
                    whole *= 100;
                    dry *= 100 - shower.chance;
                }
            }
            return whole < 1 ? 0 : (int) (SURELY * (whole - dry) / whole);
        }

        int hopeOf(Deed deed) {
            int sum = 0;
            for (int m = deed.firstMinute; m <= deed.lastMinute; m++) {
                if (footFrom(county.road, m) == deed.acre) {
                    sum += oddsOf(deed.acre, m);
                }
            }
            return sum / 100;
        }

        int sprayAt(int minute) {
            int set = 0;
            for (int acre = 0; acre < ACRES; acre++) {
                if (county.wettersOf(acre, minute) != 0) {
                    set |= 1 << acre;
                }
            }
            for (int from = 0; from < ACRES; from++) {
                int foot = footFrom(from, minute);
                if (foot != NONE) {
                    set &= ~(1 << foot);
                }
            }
            return set;
        }

        int bothFrom(int acre, int other, int minute, int n) {
            int sum = 0;
            for (int m = minute; m < minute + n; m++) {
                if (county.archFrom(acre, m) != NONE && county.archFrom(other, m) != NONE) {
                    sum++;
                }
            }
            return sum;
        }

        int weddings(int d, int minute, int k) {
            int found = 0;
            int soonest = minute;
            for (int m = minute; m < minute + DAY; m++) {
                if (m >= soonest && county.archFrom(county.road, m) != NONE) {
                    if (found == k) {
                        return m;
                    }
                    found++;
                    soonest = m + d;
                }
            }
            return k == NONE ? found : NONE;
        }

        int minutesToDry() {
            int n = 0;
            for (int i = 0; i < county.showerCount; i++) {
                Shower shower = county.showers[i];
                int needed = shower.lastMinute + 1 - county.minute;
                if (shower.state != STAYS_AWAY && needed > n) {
                    n = needed;
                }
            }
            return n > MOST_DRY ? NONE : n;
        }

        /** Whether the tape tells of acres, each with a byte 1 for wet or 0 for not. */
        boolean takeSights(Tape tape) {
            toldWet = 0;
            toldDry = 0;
            if (tape.length > SEEN_BYTES || tape.length % 2 != 0) {
                return false;
            }
            for (int i = 0; i + 1 < tape.length; i += 2) {
                if (tape.bytes[i] >= ACRES || tape.bytes[i + 1] > 1) {
                    return false;
                }
                if (tape.bytes[i + 1] == 1) {
                    toldWet |= 1 << tape.bytes[i];
                } else {
                    toldDry |= 1 << tape.bytes[i];
                }
            }
            return true;
        }

        int fittingSets(int minute) {
            int sum = 0;
            for (int set = 0; set < 1 << county.showerCount; set++) {
                if (fits(set, minute)) {
                    sum++;
                }
            }
            return sum;
        }

        int sureShowers(int minute) {
            int sure = NONE;
            for (int set = 0; set < 1 << county.showerCount; set++) {
                if (fits(set, minute)) {
                    sure &= set;
                }
            }
            return sure == NONE ? 0 : sure;
        }

        int tellingAcre(int minute) {
            int sets = 0;
            clearStood();
            for (int set = 0; set < 1 << county.showerCount; set++) {
                if (fits(set, minute)) {
                    sets++;
                    countWet(acresUnder(set, minute));
                }
            }
            return sets < 2 ? NONE : leastGreaterPart(sets);
        }

        private void countWet(int acres) {
            for (int i = 0; i < ACRES; i++) {
                if (isIn(acres, i)) {
                    stood[i]++;
                }
            }
        }

        private int leastGreaterPart(int sets) {
            int best = 0;
            int least = sets;
            for (int i = 0; i < ACRES; i++) {
                int greater = stood[i] > sets - stood[i] ? stood[i] : sets - stood[i];
                if (greater < least) {
                    least = greater;
                    best = i;
                }
            }
            return best;
        }

        private boolean fits(int set, int minute) {
            for (int i = 0; i < county.showerCount; i++) {
                int state = county.showers[i].state;
                if (isIn(set, i) ? state == STAYS_AWAY : state == COMES) {
                    return false;
                }
            }
            int acres = acresUnder(set, minute);
            return (acres & toldWet) == toldWet && (acres & toldDry) == 0;
        }

        private int acresUnder(int set, int minute) {
            int acres = 0;
            for (int i = 0; i < county.showerCount; i++) {
                if (isIn(set, i)) {
                    acres |= county.showers[i].acresAt(minute);
                }
            }
            return acres;
        }
    }

    /** Questions about brokers: what deeds are worth to them, and where they walk. */
    private static final class Market {
        private static final int MORE_THAN_ALL_WALKS = 1000;

        private final County county;
        private final Forecast forecast;
        private final int[] costs = new int[MOST_DEEDS];
        private final int[] gains = new int[MOST_DEEDS];
        private final int[] hopes = new int[2];
        /** What the first broker pays for a and b, then what the other one does. */
        private final int[] prices = new int[4];
        private final int[] places = new int[MOST_BROKERS];
        /** By the set of places that are taken by the first brokers: the fewest minutes of all others. */
        private final int[] fewest = new int[1 << MOST_BROKERS];

        Market(County county, Forecast forecast) {
            this.county = county;
            this.forecast = forecast;
        }

        int gainOf(int broker, int deed) {
            Deed sold = county.deeds[deed];
            int sum = -county.costFor(broker, deed);
            int begin = sold.firstMinute > county.minute ? sold.firstMinute : county.minute;
            for (int m = begin; m <= sold.lastMinute; m++) {
                if (county.archFrom(county.road, m) == sold.acre) {
                    sum += county.payFor(broker, deed, m);
                }
            }
            return sum;
        }

        int bestDeals(int broker) {
            int owned = county.ownedDeeds();
            for (int i = 0; i < county.deedCount; i++) {
                costs[i] = county.costFor(broker, i);
                gains[i] = isIn(owned, i) ? 0 : gainOf(broker, i);
            }
            int best = 0;
            int most = 0;
            for (int set = 1; set < 1 << county.deedCount; set++) {
                if ((set & owned) == 0 && costsTogether(set) <= county.brokers[broker].purse
                        && gainsTogether(set) > most) {
                    best = set;
                    most = gainsTogether(set);
                }
            }
            return best;
        }

        private int costsTogether(int set) {
            int sum = 0;
            for (int i = 0; i < county.deedCount; i++) {
                if (isIn(set, i)) {
                    sum += costs[i];
                }
            }
            return sum;
        }

        /** Of what bestDeals found out. */
        int gainsTogether(int set) {
            int sum = 0;
            for (int i = 0; i < county.deedCount; i++) {
                if (isIn(set, i)) {
                    sum += gains[i];
                }
            }
            return sum;
        }

        int restingChoices(int broker, int other, int a, int b) {
            hopes[0] = forecast.hopeOf(county.deeds[a]);
            hopes[1] = forecast.hopeOf(county.deeds[b]);
            prices[0] = county.costFor(broker, a);
            prices[1] = county.costFor(broker, b);
            prices[2] = county.costFor(other, a);
            prices[3] = county.costFor(other, b);
            int set = 0;
            for (int choice = 0; choice < 4; choice++) {
                int mine = choice / 2;
                int theirs = choice % 2;
                if (isContent(0, mine, theirs) && isContent(1, theirs, mine)) {
                    set |= 1 << choice;
                }
            }
            return set;
        }

        private boolean isContent(int who, int mine, int theirs) {
            return shareOf(who, mine, theirs) >= shareOf(who, 1 - mine, theirs);
        }

        private int shareOf(int who, int mine, int theirs) {
            int hope = mine == theirs ? hopes[mine] / 2 : hopes[mine];
            return hope - prices[2 * who + mine];
        }

        int richest() {
            int best = NONE;
            int most = NONE;
            for (int i = 0; i < county.brokerCount; i++) {
                int worth = county.worthOf(i);
                if (worth > most) {
                    most = worth;
                    best = i;
                }
            }
            return best;
        }

        int clashes() {
            int sum = 0;
            for (int i = 0; i < county.deedCount; i++) {
                for (int j = 0; j < i; j++) {
                    if (areOfOneAcreAndMinute(county.deeds[i], county.deeds[j])) {
                        sum++;
                    }
                }
            }
            return sum;
        }

        private static boolean areOfOneAcreAndMinute(Deed one, Deed other) {
            return one.acre == other.acre && one.firstMinute <= other.lastMinute
                    && other.firstMinute <= one.lastMinute;
        }

        int meetingAcre(Broker one, Broker other) {
            int best = 0;
            int soonest = ACRES;
            for (int acre = 0; acre < ACRES; acre++) {
                int mine = one.minutesTo(acre);
                int theirs = other.minutesTo(acre);
                int later = mine > theirs ? mine : theirs;
                if (later < soonest) {
                    soonest = later;
                    best = acre;
                }
            }
            return best;
        }

        int firstBrokerOn(int acre) {
            int best = NONE;
            int soonest = ACRES;
            for (int i = 0; i < county.brokerCount; i++) {
                int needed = county.brokers[i].minutesTo(acre);
                if (needed < soonest) {
                    soonest = needed;
                    best = i;
                }
            }
            return best;
        }

        boolean takePlaces(Tape tape) {
            if (tape.length != county.brokerCount) {
                return false;
            }
            for (int i = 0; i < county.brokerCount; i++) {
                if (tape.bytes[i] >= ACRES) {
                    return false;
                }
                places[i] = tape.bytes[i];
            }
            return true;
        }

        /** From the set of all places down, so that what a set leads to is known ahead of it. */
        void planWays() {
            int all = (1 << county.brokerCount) - 1;
            fewest[all] = 0;
            for (int taken = all - 1; taken >= 0; taken--) {
                int walker = Integer.bitCount(taken);
                int least = MORE_THAN_ALL_WALKS;
                for (int i = 0; i < county.brokerCount; i++) {
                    if (!isIn(taken, i) && minutesBy(taken, walker, i) < least) {
                        least = minutesBy(taken, walker, i);
                    }
                }
                fewest[taken] = least;
            }
        }

        private int minutesBy(int taken, int walker, int place) {
            return county.brokers[walker].minutesTo(places[place]) + fewest[taken | 1 << place];
        }

        int fewestMinutes() {
            return fewest[0];
        }

        /** The first way lets each broker in turn take the least place that keeps the minutes fewest. */
        int placeOf(int broker) {
            int taken = 0;
            int place = NONE;
            for (int walker = 0; walker <= broker; walker++) {
                place = firstPlace(taken, walker);
                if (place == NONE) {
                    return NONE;
                }
                taken |= 1 << place;
            }
            return place;
        }

        private int firstPlace(int taken, int walker) {
            for (int i = 0; i < county.brokerCount; i++) {
                if (!isIn(taken, i) && minutesBy(taken, walker, i) == fewest[taken]) {
                    return i;
                }
            }
            return NONE;
        }
    }
}
