/** Promises 19 to 44: what is asked of the sky, of deeds, of brokers and of showers. */
final class QuestionsTest {
    private static final Class<IndexOutOfBoundsException> NO_SUCH = IndexOutOfBoundsException.class;
    private static final Class<IllegalArgumentException> NO_NUMBER = IllegalArgumentException.class;

    public static void main(String[] args) {
        sunAndReach();
        foot();
        showersDrift();
        archAndLooks();
        stands();
        odds();
        gainAndDeals();
        meetAndRush();
        send();
        seen();
        ask();
        spray();
        both();
        rests();
        row();
        dry();
        richAndClash();
        wrongMinutes();
        Check.finish();
    }

    private static void sunAndReach() {
        ArchEnds x = new ArchEnds();
        int[][] suns = {{0, 0}, {1, 1}, {42, 42}, {47, 47}, {48, 48}, {49, 47}, {95, 1}, {96, 0}, {144, 48}, {9999, 15}};
        for (int[] s : suns) {
            Check.due("sun(" + s[0] + ")", x.sun(s[0]), s[1]);
        }
        int[][] reaches = {{0, -1}, {1, 6}, {6, 6}, {7, 5}, {12, 5}, {13, 4}, {36, 1}, {37, 0}, {42, 0}, {43, -1}, {48, -1},
            {53, -1}, {54, 0}, {59, 0}, {60, 1}, {95, 6}, {96, -1}, {97, 6}};
        for (int[] r : reaches) {
            Check.due("reach(" + r[0] + ")", x.reach(r[0]), r[1]);
        }
    }

    private static void foot() {
        ArchEnds x = new ArchEnds();
        int[][] feet = {{8, 1, 2}, {6, 1, 0}, {5, 1, -1}, {15, 1, 9}, {8, 42, 8}, {8, 48, -1}, {8, 54, 8}, {8, 60, 9}, {9, 95, 15},
            {10, 95, -1}, {0, 0, -1}, {15, 60, -1}, {0, 36, -1}};
        for (int[] f : feet) {
            Check.due("foot(" + f[0] + ", " + f[1] + ")", x.foot(f[0], f[1]), f[2]);
        }
        Check.dueThrow("foot(16, 0)", NO_SUCH, () -> x.foot(16, -1));
        Check.dueThrow("foot(-1, 0)", NO_SUCH, () -> x.foot(-1, 0));
    }

    private static void showersDrift() {
        ArchEnds x = Check.of("shower 6 to 9 from 10 to 40 east 1;shower 0 to 3 from 10 to 40 west 2;shower 5 to 5 from 13 to 13");
        int[][] wets = {{6, 9, 0}, {6, 10, 1}, {5, 10, 0}, {9, 13, 1}, {6, 13, 1}, {6, 14, 0}, {10, 14, 1}, {7, 17, 1}, {7, 18, 0},
            {0, 13, 2}, {1, 14, 2}, {2, 14, 0}, {0, 18, 0}, {15, 34, 1}, {12, 37, 1}, {12, 38, 0}, {15, 38, 1}, {0, 14, 2}, {0, 17, 2}, {13, 38, 1}, {12, 34, 1}, {11, 34, 0},
            {15, 46, 0}, {5, 13, 4}, {5, 12, 0}, {5, 14, 0}};
        for (int[] w : wets) {
            Check.due("wets(" + w[0] + ", " + w[1] + ")", x.wets(w[0], w[1]), w[2]);
        }
        Check.dueThrow("wets(16, 0)", NO_SUCH, () -> x.wets(16, 0));
        Check.dueThrow("wets(-1, 0)", NO_SUCH, () -> x.wets(-1, 10000));
    }

    private static void archAndLooks() {
        ArchEnds x = Check.of("shower 2 to 5 from 1 to 20;shower 0 to 15 from 60 to 63");
        Check.due("arch(8, 1)", x.arch(8, 1), true);
        Check.due("arch(7, 1)", x.arch(7, 1), false);
        Check.due("arch(5, 1)", x.arch(5, 1), false);
        Check.due("arch(8, 21)", x.arch(8, 21), false);
        Check.due("arch(15, 60)", x.arch(15, 60), false);
        Check.due("arch(14, 60)", x.arch(14, 60), true);
        Check.due("looks(2, 1)", x.looks(2, 1), 1 << 8);
        Check.due("looks(9, 1)", x.looks(9, 1), 0);
        Check.due("looks(0, 60)", x.looks(0, 60), 0);
        Check.due("looks(1, 60)", x.looks(1, 60), 1);
        x.tell(0, 2);
        Check.due("no arch without it", x.arch(8, 1), false);
        Check.due("no looks without it", x.looks(2, 1), 0);
        x.tell(0, 1);
        Check.due("an arch with it", x.arch(8, 1), true);
        Check.dueThrow("arch(16, 0)", NO_SUCH, () -> x.arch(16, 0) ? 1 : 0);
        Check.dueThrow("looks(-1, 0)", NO_SUCH, () -> x.looks(-1, 0));
    }

    private static void stands() {
        ArchEnds x = Check.of("shower 2 to 5 from 1 to 20;shower 9 to 9 from 60 to 63;shower 4 to 4 from 300 to 310");
        int[][] stands = {{3, 0, 30, 6}, {2, 0, 96, 6}, {4, 0, 96, 6}, {5, 0, 96, 2}, {9, 0, 96, 4}, {9, 0, 61, 1}, {9, 0, 60, 0},
            {2, 6, 1, 1}, {2, 7, 1, 0}, {8, 0, 96, 0}, {2, 9999, 96, 0}};
        for (int[] s : stands) {
            Check.due("stands(" + s[0] + ", " + s[1] + ", " + s[2] + ")", x.stands(s[0], s[1], s[2]), s[3]);
        }
        Check.due("best(0, 96)", x.best(0, 96), 2);
        Check.due("best(5, 20)", x.best(5, 20), 3);
        Check.due("best(60, 4)", x.best(60, 4), 9);
        Check.due("best(30, 5) of none", x.best(30, 5), 0);
        Check.due("best(16, 5)", x.best(16, 5), 4);
        Check.due("best(0, 1)", x.best(0, 1), 0);
        Check.due("best(1, 1)", x.best(1, 1), 2);
        Check.due("best of acre 1", Check.of("road 7;shower 1 to 1 from 0 to 9").best(0, 96), 1);
        ArchEnds y = Check.of("road 6;shower 0 to 0 from 1 to 6;shower 1 to 1 from 7 to 9");
        Check.due("best of acre 0", y.best(0, 96), 0);
        Check.due("best anew", y.best(7, 5), 1);
        Check.due("site(3, 0, 1)", x.site(3, 0, 1), 0);
        Check.due("first(5, 0)", x.first(5, 0), 19);
        Check.due("first(5, 20)", x.first(5, 20), 20);
        Check.due("first(5, 21)", x.first(5, 21), -1);
        Check.due("first(4, 101)", x.first(4, 101), -1);
        Check.due("first(4, 102)", x.first(4, 102), 301);
        Check.due("first(4, 9999)", x.first(4, 9999), -1);
        Check.due("site(3, 0, 30)", x.site(3, 0, 30), 7);
        Check.due("site(3, 1, 6)", x.site(3, 1, 6), 9);
        Check.due("site(9, 60, 1)", x.site(9, 60, 1), 8);
        Check.due("site(15, 0, 96) of none", x.site(15, 0, 96), 0);
        x.road(9);
        Check.due("stands by another road", x.stands(3, 0, 30), 6);
        Check.due("stands by another road", x.stands(2, 0, 30), 0);
        Check.due("first by another road", x.first(3, 0), 1);
        Check.due("site is the same from there", x.site(3, 0, 30), 7);
        for (int n : new int[] {0, 97, -1}) {
            Check.dueThrow("stands of " + n, NO_NUMBER, () -> x.stands(0, 0, n));
            Check.dueThrow("best of " + n, NO_NUMBER, () -> x.best(0, n));
            Check.dueThrow("site of " + n, NO_NUMBER, () -> x.site(0, 0, n));
            Check.dueThrow("both of " + n, NO_NUMBER, () -> x.both(0, 1, 0, n));
        }
        for (int acre : new int[] {-1, 16}) {
            Check.dueThrow("stands on " + acre, NO_SUCH, () -> x.stands(acre, -1, 0));
            Check.dueThrow("first on " + acre, NO_SUCH, () -> x.first(acre, -1));
            Check.dueThrow("site of " + acre, NO_SUCH, () -> x.site(acre, -1, 0));
            Check.dueThrow("odds of " + acre, NO_SUCH, () -> x.odds(acre, -1));
        }
    }

    private static void odds() {
        ArchEnds x = Check.of("shower 2 to 5 from 1 to 20 chance 50;shower 4 to 6 from 1 to 20 chance 33;"
                + "shower 4 to 4 from 1 to 20 chance 77;deed 4 from 0 to 999 price 1;deed 2 from 2 to 3 price 1;"
                + "deed 15 from 0 to 90 price 1;deed 5 from 18 to 19 price 1");
        Check.due("odds(2, 1)", x.odds(2, 1), 5000);
        Check.due("odds(2, 0)", x.odds(2, 0), 0);
        Check.due("odds(5, 1)", x.odds(5, 1), 6650);
        Check.due("odds(4, 1), rounded down", x.odds(4, 1), 9229);
        Check.due("hope(0)", x.hope(0), 6 * 9229 / 100);
        Check.due("hope(1)", x.hope(1), 100);
        Check.due("hope(2)", x.hope(2), 0);
        Check.due("hope(3)", x.hope(3), 66);
        x.minutes(3);
        x.tell(0, 0);
        x.tell(1, 0);
        Check.due("all its minutes, not from now on", x.hope(1), 100);
        x.tell(0, 1);
        Check.due("surely", x.odds(4, 1), 10000);
        Check.due("surely, not elsewhere", x.odds(6, 1), 3300);
        x.tell(0, 2);
        Check.due("never", x.odds(2, 1), 0);
        x.tell(2, 0);
        Check.due("of two", x.odds(4, 1), 8459);
        x.road(9);
        Check.due("hope by another road", x.hope(1), 0);
        Check.dueThrow("hope(4)", NO_SUCH, () -> x.hope(4));
        Check.dueThrow("hope(-1)", NO_SUCH, () -> x.hope(-1));
        ArchEnds y = Check.of("shower 0 to 9 from 0 to 9 chance 1;".repeat(5) + "shower 0 to 9 from 0 to 9 chance 1");
        Check.due("six by 1 of 100", y.odds(0, 0), 585);
        ArchEnds z = Check.of("shower 0 to 9 from 1 to 1 chance 99;shower 0 to 9 from 1 to 1 chance 99;deed 2 from 0 to 9 price 1");
        Check.due("rounded down at last", z.hope(0), 99);
    }

    private static void gainAndDeals() {
        String county = "shower 2 to 5 from 1 to 20;broker 100 at 4 pace 2;broker 29 at 12 pace 3;deed 3 from 1 to 12 price 10;"
                + "deed 4 from 10 to 20 price 30;deed 4 from 18 to 30 price 20;deed 2 from 0 to 95 price 5;wage 6";
        ArchEnds x = Check.of(county);
        int[] gains = {26, 6, -14, 31};
        for (int i = 0; i < gains.length; i++) {
            Check.due("gain(0, " + i + ")", x.gain(0, i), gains[i]);
        }
        Check.due("deals(0)", x.deals(0, false), 11);
        Check.due("deals(0) much", x.deals(0, true), 63);
        Check.due("deals(1)", x.deals(1, false), 9);
        Check.due("deals(1) much", x.deals(1, true), 57);
        Check.law(x, "bring 10 if who > 0;bring 4 if owned;cost 1");
        Check.due("gain of another", x.gain(1, 0), 6 * 16 - 11);
        x.buy(0, 3);
        Check.due("owned as it is now", x.gain(1, 3), 6 * 20 - 6);
        Check.due("one that has an owner is not in it", x.deals(0, false), 3);
        x.minutes(9);
        Check.due("from now on", x.gain(0, 0), 4 * 6 - 11);
        x.minutes(30);
        Check.due("nothing is left", x.gain(0, 0), -11);
        Check.due("the empty set", x.deals(0, false), 0);
        Check.due("the empty set brings", x.deals(0, true), 0);
        ArchEnds y = Check.of("broker 10 at 1 pace 1;wage 5;shower 2 to 2 from 0 to 9;deed 2 from 1 to 2 price 5;"
                + "deed 2 from 1 to 2 price 5;deed 2 from 3 to 4 price 5;deed 2 from 3 to 3 price 5");
        Check.due("of several the least", y.deals(0, false), 3);
        Check.due("how much", y.deals(0, true), 10);
        ArchEnds z = Check.of("broker 10 at 1 pace 1;wage 6;shower 2 to 2 from 1 to 1;deed 2 from 1 to 2 price 5");
        Check.due("a gain of 1", z.deals(0, false), 1);
        Check.due("how much", z.deals(0, true), 1);
        Check.dueThrow("gain(-1, 0)", NO_SUCH, () -> y.gain(-1, 0));
        Check.dueThrow("gain(1, 0)", NO_SUCH, () -> y.gain(1, 0));
        Check.dueThrow("gain(0, 4)", NO_SUCH, () -> y.gain(0, 4));
        Check.dueThrow("deals(1)", NO_SUCH, () -> y.deals(1, true));
        Check.dueThrow("deals(-1)", NO_SUCH, () -> y.deals(-1, false));
    }

    private static void meetAndRush() {
        ArchEnds x = Check.of("broker 100 at 4 pace 2;broker 60 at 12 pace 3;broker 1 at 0 pace 4;broker 1 at 4 pace 2");
        Check.law(x, "slow 99");
        Check.due("meet(0, 1)", x.meet(0, 1), 6);
        Check.due("meet(1, 0)", x.meet(1, 0), 6);
        Check.due("meet(0, 2)", x.meet(0, 2), 2);
        Check.due("meet(0, 3)", x.meet(0, 3), 4);
        Check.dueThrow("meet(0, 0)", NO_NUMBER, () -> x.meet(0, 0));
        Check.due("meet at acre 0", Check.of("broker 0 at 0 pace 1;broker 0 at 0 pace 1").meet(0, 1), 0);
        Check.dueThrow("meet(4, 4)", NO_SUCH, () -> x.meet(4, 4));
        Check.dueThrow("meet(4, 0)", NO_SUCH, () -> x.meet(4, 0));
        Check.dueThrow("meet(0, -1)", NO_SUCH, () -> x.meet(0, -1));
        int[] rush = {2, 2, 0, 0, 0, 0, 0, 0, 0, 1, 1, 1, 1, 1, 1, 1};
        for (int acre = 0; acre < 16; acre++) {
            Check.due("rush(" + acre + ")", x.rush(acre), rush[acre]);
        }
        Check.dueThrow("rush(16)", NO_SUCH, () -> x.rush(16));
        Check.dueThrow("rush(-1)", NO_SUCH, () -> x.rush(-1));
    }

    private static int send(ArchEnds x, int broker, int... places) {
        byte[] bytes = new byte[places.length];
        for (int i = 0; i < places.length; i++) {
            bytes[i] = (byte) places[i];
        }
        Check.tape(x, bytes);
        return x.send(broker);
    }

    private static void send() {
        ArchEnds x = Check.of("broker 0 at 0 pace 1;broker 0 at 15 pace 4;broker 0 at 8 pace 2");
        Check.due("the fewest", send(x, -1, 15, 8, 0), 0);
        Check.due("broker 0", send(x, 0, 15, 8, 0), 2);
        Check.due("broker 1", send(x, 1, 15, 8, 0), 0);
        Check.due("broker 2", send(x, 2, 15, 8, 0), 1);
        Check.due("all to one acre", send(x, -1, 8, 8, 8), 10);
        Check.due("the first way", send(x, 0, 8, 8, 8), 0);
        Check.due("the first way", send(x, 1, 8, 8, 8), 1);
        Check.due("the first way", send(x, 2, 8, 8, 8), 2);
        Check.due("the tape is used up", x.end(1), false);
        ArchEnds y = Check.of("broker 0 at 5 pace 4;broker 0 at 5 pace 4");
        Check.due("equal minutes: the least number", send(y, 0, 6, 5) * 10 + send(y, 1, 6, 5), 1);
        Check.dueThrow("send(3)", NO_SUCH, () -> send(x, 3, 1, 2, 3));
        Check.dueThrow("send(-2)", NO_SUCH, () -> send(x, -2, 1, 2));
        Check.due("the tape is used up", x.end(1), false);
        Check.dueThrow("an acre too few", NO_NUMBER, () -> send(x, 0, 1, 2));
        Check.dueThrow("an acre too many", NO_NUMBER, () -> send(x, -1, 1, 2, 3, 4));
        Check.dueThrow("no acre", NO_NUMBER, () -> send(x, -1, 1, 2, 16));
        Check.dueThrow("no acre", NO_NUMBER, () -> send(x, -1, 255, 2, 1));
        Check.due("the tape is used up", x.end(1), false);
        ArchEnds z = new ArchEnds();
        Check.due("no brokers", z.send(-1), 0);
        Check.dueThrow("no brokers", NO_SUCH, () -> z.send(0));
    }

    private static int seen(ArchEnds x, boolean sure, int... told) {
        tellSights(x, told);
        return x.seen(5, sure);
    }

    private static int ask(ArchEnds x, int... told) {
        tellSights(x, told);
        return x.ask(5);
    }

    private static void tellSights(ArchEnds x, int... told) {
        byte[] bytes = new byte[told.length];
        for (int i = 0; i < told.length; i++) {
            bytes[i] = (byte) told[i];
        }
        Check.tape(x, bytes);
    }

    private static final String THREE = "shower 0 to 3 from 0 to 9;shower 2 to 5 from 0 to 9;shower 8 to 9 from 0 to 9";

    private static void seen() {
        ArchEnds x = Check.of(THREE);
        Check.due("none told", seen(x, false), 8);
        Check.due("none told, sure", seen(x, true), 0);
        Check.due("2 was wet", seen(x, false, 2, 1), 6);
        Check.due("0 was wet", seen(x, false, 0, 1), 4);
        Check.due("0 was wet, sure", seen(x, true, 0, 1), 1);
        Check.due("1 was wet", seen(x, false, 1, 1), 4);
        Check.due("3 was wet", seen(x, false, 3, 1), 6);
        Check.due("4 was not", seen(x, false, 4, 0), 4);
        Check.due("3 was not", seen(x, false, 3, 0), 2);
        Check.due("0 was wet, 5 not", seen(x, false, 0, 1, 5, 0), 2);
        Check.due("0 not, 2 was wet", seen(x, true, 0, 0, 2, 1), 2);
        Check.due("wet and not", seen(x, false, 0, 1, 0, 0), 0);
        Check.due("wet and not, sure", seen(x, true, 0, 1, 0, 0), 0);
        Check.due("an acre without a shower", seen(x, false, 15, 1), 0);
        x.tell(2, 1);
        Check.due("one that comes", seen(x, false), 4);
        Check.due("one that comes, sure", seen(x, true), 4);
        Check.due("8 was not", seen(x, false, 8, 0), 0);
        x.tell(2, 2);
        Check.due("one that does not", seen(x, false), 4);
        Check.due("8 was wet", seen(x, false, 8, 1), 0);
        x.tell(0, 1);
        Check.due("the first one comes", seen(x, false), 2);
        Check.due("the first one comes, sure", seen(x, true), 1);
        x.tell(0, 2);
        Check.due("the first one does not", seen(x, false), 2);
        Check.due("0 was wet without it", seen(x, false, 0, 1), 0);
        x.undo();
        x.undo();
        ArchEnds one = Check.of("shower 3 to 3 from 0 to 9");
        Check.due("one shower", seen(one, false), 2);
        Check.due("one shower, not sure", seen(one, true), 0);
        Check.due("one shower, asked", ask(one), 3);
        tellSights(x, 0, 1);
        Check.due("in another minute", x.seen(10, false), 0);
        Check.due("the tape is used up", x.end(1), false);
        Check.due("40 bytes", seen(x, false, new int[40]), 2);
        Check.dueThrow("42 bytes", NO_NUMBER, () -> seen(x, false, new int[42]));
        Check.dueThrow("41 bytes", NO_NUMBER, () -> seen(x, false, new int[41]));
        Check.dueThrow("an odd byte", NO_NUMBER, () -> seen(x, true, 0, 1, 2));
        Check.dueThrow("no acre", NO_NUMBER, () -> seen(x, true, 16, 1));
        Check.dueThrow("neither wet nor not", NO_NUMBER, () -> seen(x, true, 1, 2));
        Check.due("the tape is used up", x.end(1), false);
        tellSights(x, 0, 1);
        Check.dueThrow("no minute", NO_NUMBER, () -> x.seen(10000, false));
        Check.due("the tape is used up", x.end(1), false);
    }

    private static void ask() {
        ArchEnds x = Check.of(THREE);
        Check.due("none told", ask(x), 0);
        Check.due("0 was wet", ask(x, 0, 1), 4);
        Check.due("0 was wet, 5 not", ask(x, 0, 1, 5, 0), 8);
        Check.due("one set alone", ask(x, 0, 1, 5, 0, 8, 1), -1);
        Check.due("no set", ask(x, 0, 1, 0, 0), -1);
        Check.due("2 was wet", ask(x, 2, 1), 8);
        tellSights(x);
        Check.due("no acre parts them", x.ask(20), 0);
        Check.due("the tape is used up", x.end(1), false);
        Check.dueThrow("an odd byte", NO_NUMBER, () -> ask(x, 0));
        Check.dueThrow("no acre", NO_NUMBER, () -> ask(x, 200, 1));
        Check.dueThrow("neither wet nor not", NO_NUMBER, () -> ask(x, 1, 255));
        Check.dueThrow("42 bytes", NO_NUMBER, () -> ask(x, new int[42]));
        tellSights(x, 0, 1);
        Check.dueThrow("no minute", NO_NUMBER, () -> x.ask(-1));
        Check.due("the tape is used up", x.end(1), false);
        Check.due("without showers", ask(new ArchEnds()), -1);
    }

    private static void spray() {
        ArchEnds x = Check.of("shower 0 to 15 from 0 to 99");
        Check.due("spray(0), no feet at all", x.spray(0), 65535);
        Check.due("spray(1)", x.spray(1), 65535 & ~1023);
        Check.due("spray(36)", x.spray(36), 1 << 15);
        Check.due("spray(42)", x.spray(42), 0);
        Check.due("spray(48)", x.spray(48), 65535);
        Check.due("spray(60)", x.spray(60), 1);
        Check.due("spray(95)", x.spray(95), 63);
        Check.due("spray(100)", x.spray(100), 0);
        x.tell(0, 2);
        Check.due("none wets", x.spray(0), 0);
    }

    private static void both() {
        ArchEnds x = Check.of("shower 2 to 5 from 1 to 20");
        Check.due("both(8, 9, 0, 30)", x.both(8, 9, 0, 30), 18);
        Check.due("both(9, 8, 0, 30)", x.both(9, 8, 0, 30), 18);
        Check.due("both(8, 11, 0, 96)", x.both(8, 11, 0, 96), 6);
        Check.due("both(8, 9, 0, 1)", x.both(8, 9, 0, 1), 0);
        Check.dueThrow("both(16, 1)", NO_SUCH, () -> x.both(16, 1, 0, 30));
        Check.due("both(8, 9, 18, 1)", x.both(8, 9, 18, 1), 1);
        Check.due("both(8, 9, 19, 1)", x.both(8, 9, 19, 1), 0);
        Check.due("both(8, 1, 0, 96)", x.both(8, 1, 0, 96), 0);
        Check.dueThrow("both are one", NO_NUMBER, () -> x.both(8, 8, 0, 30));
        Check.dueThrow("both(16, 16)", NO_SUCH, () -> x.both(16, 16, 0, 30));
        Check.dueThrow("both(8, -1)", NO_SUCH, () -> x.both(8, -1, -1, 0));
        Check.dueThrow("no minute", NO_NUMBER, () -> x.both(8, 9, 10000, 30));
    }

    private static void rests() {
        ArchEnds x = Check.of("shower 0 to 15 from 0 to 95;broker 0 at 0 pace 1;broker 0 at 0 pace 1;"
                + "deed 3 from 0 to 95 price 10;deed 4 from 0 to 95 price 30;deed 5 from 0 to 18 price 0;deed 3 from 7 to 7 price 0;"
                + "deed 4 from 13 to 17 price 999");
        Check.due("one each", x.rests(0, 1, 0, 1), 6);
        Check.due("one that brings nothing", x.rests(0, 1, 0, 2), 1);
        Check.due("turned round", x.rests(0, 1, 2, 0), 8);
        Check.due("600 - 10 against 100 or 50", x.rests(0, 1, 0, 3), 1);
        Check.due("500 - 999 below nothing", x.rests(0, 1, 2, 4), 1);
        Check.law(x, "cost 99 if who < 1 and acre < 4;".repeat(4) + "cost 99 if who < 1 and acre < 4");
        Check.due("dear for the first alone", x.rests(0, 1, 0, 3), 1);
        Check.due("dear for the first alone, of a and b", x.rests(0, 1, 0, 1), 4);
        Check.due("dear for the other alone", x.rests(1, 0, 0, 1), 2);
        Check.dueThrow("both brokers are one", NO_NUMBER, () -> x.rests(0, 0, 0, 1));
        Check.dueThrow("both deeds are one", NO_NUMBER, () -> x.rests(0, 1, 1, 1));
        Check.dueThrow("no broker", NO_SUCH, () -> x.rests(2, 2, 1, 1));
        Check.dueThrow("no first broker", NO_SUCH, () -> x.rests(2, 0, 0, 1));
        Check.dueThrow("no first deed", NO_SUCH, () -> x.rests(0, 1, 5, 1));
        Check.dueThrow("no other", NO_SUCH, () -> x.rests(0, -1, 1, 1));
        Check.dueThrow("no deed a", NO_SUCH, () -> x.rests(0, 0, 5, 5));
        Check.dueThrow("no deed b", NO_SUCH, () -> x.rests(0, 0, 0, -1));
        ArchEnds y = Check.of("broker 0 at 0 pace 1;broker 0 at 0 pace 1;deed 3 from 0 to 95 price 10;deed 4 from 0 to 95 price 10");
        Check.due("all alike", y.rests(0, 1, 0, 1), 15);
        ArchEnds z = Check.of("shower 0 to 9 from 7 to 7 chance 3;broker 0 at 0 pace 1;broker 0 at 0 pace 1;"
                + "deed 3 from 7 to 7 price 0;deed 4 from 0 to 1 price 0");
        Check.due("half of 3 is 1", z.rests(0, 1, 0, 1), 1);
        ArchEnds half = Check.of("shower 3 to 3 from 0 to 99;shower 4 to 4 from 0 to 99 chance 50;broker 0 at 0 pace 1;"
                + "broker 0 at 0 pace 1;deed 3 from 0 to 95 price 0;deed 4 from 13 to 17 price 0;deed 4 from 0 to 95 price 0");
        Check.due("half of 600 against 250", half.rests(0, 1, 0, 1), 1);
        Check.due("half of 600 against 300", half.rests(0, 1, 0, 2), 7);
    }

    private static void row() {
        ArchEnds x = Check.of("shower 2 to 5 from 1 to 20;shower 0 to 15 from 60 to 63");
        Check.due("row(5, 0)", x.row(5, 0, -1), 5);
        int[] row = {1, 6, 11, 16, 60, -1};
        for (int k = 0; k < row.length; k++) {
            Check.due("row(5, 0, " + k + ")", x.row(5, 0, k), row[k]);
        }
        Check.due("row(5, 0, -2)", x.row(5, 0, -2), -1);
        Check.due("row(1, 0)", x.row(1, 0, -1), 24);
        Check.due("row(20, 0)", x.row(20, 0, -1), 2);
        Check.due("row(1, 20)", x.row(1, 20, -1), 5);
        Check.due("row(1, 20, 0)", x.row(1, 20, 0), 20);
        Check.due("row(1, 64)", x.row(1, 64, -1), 0);
        Check.due("row(1, 9999)", x.row(1, 9999, -1), 0);
        Check.due("row by MAX", x.row(1, 0, Integer.MAX_VALUE), -1);
        Check.dueThrow("row(0, 0)", NO_NUMBER, () -> x.row(0, 0, 0));
        Check.dueThrow("row(21, 0)", NO_NUMBER, () -> x.row(21, 0, 0));
        Check.dueThrow("row(1, 10000)", NO_NUMBER, () -> x.row(1, 10000, 0));
        Check.due("of 96 minutes from 1 on", Check.of("shower 0 to 15 from 0 to 999").row(1, 1, -1), 84);
        x.road(0);
        Check.due("row by another road", x.row(1, 0, -1), 4);
        Check.due("of 96 minutes", Check.of("shower 0 to 15 from 0 to 999").row(1, 0, -1), 84);
    }

    private static void dry() {
        ArchEnds x = Check.of("shower 2 to 5 from 1 to 20;shower 0 to 15 from 60 to 199");
        Check.due("dry()", x.dry(), 200);
        x.tell(1, 2);
        Check.due("but those of state 2", x.dry(), 21);
        x.minutes(5);
        Check.due("from now", x.dry(), 16);
        x.minutes(16);
        Check.due("now", x.dry(), 0);
        x.minutes(50);
        Check.due("long ago", x.dry(), 0);
        ArchEnds y = Check.of("shower 0 to 15 from 60 to 200");
        Check.due("none", y.dry(), -1);
        y.minutes(1);
        Check.due("200 then", y.dry(), 200);
    }

    private static void richAndClash() {
        ArchEnds x = Check.of("broker 50 at 0 pace 1;broker 60 at 0 pace 1;broker 60 at 0 pace 1;deed 3 from 1 to 12 price 10;"
                + "deed 4 from 10 to 20 price 5;deed 4 from 20 to 30 price 20;deed 4 from 31 to 95 price 5;deed 4 from 0 to 99 price 9");
        Check.due("rich()", x.rich(), 1);
        Check.law(x, "cost 1");
        x.buy(1, 0);
        Check.due("rich()", x.rich(), 2);
        Check.due("worth", x.broker(1, 5), 59);
        Check.due("clash()", x.clash(), 4);
        Check.due("clash of none", Check.of("deed 3 from 1 to 12 price 10").clash(), 0);
        Check.due("clash of one minute", Check.of("deed 3 from 1 to 12 price 10;deed 3 from 12 to 12 price 1").clash(), 1);
        Check.due("clash turned", Check.of("deed 3 from 12 to 12 price 10;deed 3 from 1 to 12 price 1").clash(), 1);
        Check.due("the first is rich", Check.of("broker 7 at 0 pace 1;broker 6 at 0 pace 1").rich(), 0);
        Check.due("the poor one alone", Check.of("broker 0 at 0 pace 1").rich(), 0);
        Check.due("no clash", Check.of("deed 3 from 1 to 12 price 10;deed 3 from 13 to 13 price 1").clash(), 0);
    }

    private static void wrongMinutes() {
        ArchEnds x = Check.of("shower 2 to 5 from 1 to 20");
        for (int m : new int[] {-1, 10000, Integer.MIN_VALUE, Integer.MAX_VALUE}) {
            Check.dueThrow("sun " + m, NO_NUMBER, () -> x.sun(m));
            Check.dueThrow("reach " + m, NO_NUMBER, () -> x.reach(m));
            Check.dueThrow("foot " + m, NO_NUMBER, () -> x.foot(0, m));
            Check.dueThrow("arch " + m, NO_NUMBER, () -> x.arch(0, m) ? 1 : 0);
            Check.dueThrow("wets " + m, NO_NUMBER, () -> x.wets(0, m));
            Check.dueThrow("looks " + m, NO_NUMBER, () -> x.looks(0, m));
            Check.dueThrow("stands " + m, NO_NUMBER, () -> x.stands(0, m, 1));
            Check.dueThrow("best " + m, NO_NUMBER, () -> x.best(m, 1));
            Check.dueThrow("first " + m, NO_NUMBER, () -> x.first(0, m));
            Check.dueThrow("site " + m, NO_NUMBER, () -> x.site(0, m, 1));
            Check.dueThrow("odds " + m, NO_NUMBER, () -> x.odds(0, m));
            Check.dueThrow("spray " + m, NO_NUMBER, () -> x.spray(m));
            Check.dueThrow("seen " + m, NO_NUMBER, () -> x.seen(m, true));
            Check.dueThrow("ask " + m, NO_NUMBER, () -> x.ask(m));
            Check.dueThrow("both " + m, NO_NUMBER, () -> x.both(0, 1, m, 1));
            Check.dueThrow("row " + m, NO_NUMBER, () -> x.row(1, m, 0));
        }
    }
}
