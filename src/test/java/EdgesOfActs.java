import java.util.NoSuchElementException;

/** Sentences about acts, minutes, draws, the log, trials, acts undone and the image: promises 10 to 18 and 45 to 53. */
final class EdgesOfActs {
    private static final Class<IndexOutOfBoundsException> NO_SUCH = IndexOutOfBoundsException.class;
    private static final Class<IllegalArgumentException> NO_NUMBER = IllegalArgumentException.class;
    private static final Class<IllegalStateException> CANNOT_BE = IllegalStateException.class;
    private static final Class<NoSuchElementException> NO_WHAT = NoSuchElementException.class;
    private static final int MIN = Integer.MIN_VALUE;
    private static final int MAX = Integer.MAX_VALUE;
    /** From road 8 the foot is on acre 4 in minutes 13 to 18. */
    private static final String FAIR = "broker 50 at 0 pace 2;broker 60 at 5 pace 1;deed 4 from 3 to 40 price 20;"
            + "deed 8 from 0 to 9 price 55;wage 10;shower 0 to 15 from 0 to 999";
    private static final String DEAR = "bring 99;".repeat(11) + "bring 99";

    private EdgesOfActs() {
    }

    static void run(Sentences s) {
        prices(s);
        buysAndSells(s);
        walksAndTells(s);
        insures(s);
        draws(s);
        settles(s);
        minutes(s);
        log(s);
        ahead(s);
        trials(s);
        undone(s);
        image(s);
        manyCalls(s);
    }

    /** All but the acts remembered that can be asked without a change, in some sixty calls; the seed is put back. */
    static String allOf(ArchEnds x) {
        StringBuilder all = new StringBuilder();
        int[] counts = new int[11];
        for (int what = 0; what <= 10; what++) {
            counts[what] = x.count(what);
            all.append(counts[what]).append(' ');
        }
        for (int i = 0; i < counts[0]; i++) {
            for (int what = 0; what <= 6; what++) {
                all.append(x.shower(i, what)).append(' ');
            }
        }
        for (int i = 0; i < counts[1]; i++) {
            for (int what = 0; what <= 5; what++) {
                all.append(x.broker(i, what)).append(' ');
            }
        }
        for (int i = 0; i < counts[2]; i++) {
            for (int what = 0; what <= 6; what++) {
                all.append(x.deed(i, what)).append(' ');
            }
        }
        for (int what = 0; what <= 3; what++) {
            all.append(x.log(0, what)).append(' ').append(x.log(counts[10] - 1, what)).append(' ');
        }
        int seed = x.seed(0);
        x.seed(seed);
        return all.append(seed).toString();
    }

    private static void act(ArchEnds x, int number) {
        switch (number) {
            case 0 -> x.buy(0, 0);
            case 1 -> x.sell(0, 1);
            case 2 -> x.insure(0);
            case 3 -> x.go(1, 6);
            case 4 -> x.tell(0, 1);
            case 5 -> x.road(9);
            default -> x.minutes(20);
        }
    }

    private static void prices(Sentences s) {
        s.edge(10, "What a DEED COSTS a BROKER now.", () -> {
            ArchEnds x = Check.of(FAIR);
            Check.law(x, "cost 5 if hour > 0");
            Check.due("costs(0, 0)", x.costs(0, 0), 20);
            x.minutes(1);
            Check.due("a minute later", x.costs(0, 0), 25);
            Check.due("more than a purse", x.costs(0, 1), 60);
            x.buy(0, 0);
            Check.due("one that has an owner", x.costs(1, 0), 25);
            for (int i : new int[] {2, 5, 8, -1, MIN, MAX}) {
                Check.dueThrow("costs(" + i + ", 0)", NO_SUCH, () -> x.costs(i, 0));
                Check.dueThrow("costs(0, " + i + ")", NO_SUCH, () -> x.costs(0, i));
            }
        });
        ArchEnds y = Check.of(FAIR);
        s.edge(11, "What a DEED BRINGS a BROKER in a MINUTE, if an ARCH stands on it.", () -> {
            Check.law(y, "bring 5 if hour > 94;bring 1 if who > 0;bring 30 if acre < 5");
            Check.due("brings(0, 0, 13)", y.brings(0, 0, 13), 40);
            Check.due("the other one", y.brings(1, 0, 13), 41);
            Check.due("no arch can stand there", y.brings(0, 1, 95), 15);
            for (int i : new int[] {2, 5, 8, -1, MIN, MAX}) {
                Check.dueThrow("brings(" + i + ", 0, 0)", NO_SUCH, () -> y.brings(i, 0, 0));
                Check.dueThrow("brings(0, " + i + ", 0)", NO_SUCH, () -> y.brings(0, i, 0));
            }
        });
        s.edge(11, "IllegalArgumentException: the MINUTE is none (0 to 9999).", () -> {
            Check.due("minute 0", y.brings(0, 1, 0), 10);
            Check.due("minute 9999", y.brings(0, 1, 9999), 10);
            for (int m : new int[] {-1, 10000, MIN, MAX}) {
                Check.dueThrow("brings(0, 0, " + m + ")", NO_NUMBER, () -> y.brings(0, 0, m));
                Check.dueThrow("brings(2, 0, " + m + ")", NO_SUCH, () -> y.brings(2, 0, m));
                Check.dueThrow("brings(0, 2, " + m + ")", NO_SUCH, () -> y.brings(0, 2, m));
            }
        });
    }

    private static void buysAndSells(Sentences s) {
        s.edge(12, "Bought: PURSE then. IllegalStateException: it has an OWNER, or PURSE is less.", () -> {
            ArchEnds x = Check.of("broker 20 at 0 pace 1;broker 19 at 0 pace 1;broker 999 at 0 pace 1;deed 4 from 3 to 40 price 18");
            Check.law(x, "cost 2");
            Check.dueThrow("19 is less than 20", CANNOT_BE, () -> x.buy(1, 0));
            Check.due("no owner", x.deed(0, 4), -1);
            Check.due("20 is not", x.buy(0, 0), 0);
            Check.due("owner", x.deed(0, 4), 0);
            Check.dueThrow("it has an owner", CANNOT_BE, () -> x.buy(2, 0));
            Check.dueThrow("it has this owner", CANNOT_BE, () -> x.buy(0, 0));
            Check.due("purse stays", x.broker(2, 0), 999);
            Check.due("owner stays", x.deed(0, 4), 0);
        });
        s.edge(Sentences.TERMS, "a BROKER buys a DEED without an OWNER (PURSE is what it COSTS less)", () -> {
            ArchEnds x = Check.of("broker 999 at 0 pace 1;deed 4 from 3 to 40 price 999;deed 4 from 3 to 40 price 0");
            Check.due("a deed for nothing", x.buy(0, 1), 999);
            Check.due("a deed for all", x.buy(0, 0), 0);
            Check.due("both", x.broker(0, 4), 3);
            ArchEnds y = Check.of("minute 999;broker 5 at 0 pace 1;deed 4 from 3 to 40 price 5");
            Check.due("one whose minutes are over", y.buy(0, 0), 0);
        });
        s.edge(13, "Sold on: for how much. IllegalArgumentException: that one is its OWNER; IllegalStateException: it has none, "
                + "or that PURSE is less.", () -> {
            ArchEnds x = Check.of("broker 20 at 0 pace 1;broker 20 at 0 pace 1;broker 19 at 0 pace 1;deed 4 from 3 to 40 price 20");
            Check.dueThrow("it has none", CANNOT_BE, () -> x.sell(0, 0));
            x.buy(0, 0);
            Check.dueThrow("that one is its owner, and its purse is less", NO_NUMBER, () -> x.sell(0, 0));
            Check.dueThrow("19 is less than 20", CANNOT_BE, () -> x.sell(0, 2));
            Check.due("20 is not", x.sell(0, 1), 20);
            Check.due("purses", x.broker(0, 0) * 100 + x.broker(1, 0), 2000);
            Check.due("owner", x.deed(0, 4), 1);
            Check.dueThrow("that one is its owner now", NO_NUMBER, () -> x.sell(0, 1));
            for (int i : new int[] {3, 5, 8, -1, MIN, MAX}) {
                Check.dueThrow("sell(" + i + ", 0)", NO_SUCH, () -> x.sell(i, 0));
                Check.dueThrow("sell(0, " + i + ")", NO_SUCH, () -> x.sell(0, i));
                Check.dueThrow("buy(" + i + ", 0)", NO_SUCH, () -> x.buy(i, 0));
                Check.dueThrow("buy(0, " + i + ")", NO_SUCH, () -> x.buy(0, i));
            }
        });
        s.edge(Sentences.TERMS, "a DEED is sold on to another BROKER for what it COSTS that one now (from PURSE to PURSE, "
                + "9999 at most; INSURED, WET stay)", () -> {
            ArchEnds x = Check.of("broker 999 at 0 pace 1;broker 999 at 0 pace 1;wage 9;shower 0 to 15 from 0 to 999;"
                    + "deed 4 from 13 to 18 price 0;deed 5 from 19 to 20 price 800;deed 4 from 0 to 99 price 3");
            Check.law(x, DEAR);
            x.buy(0, 0);
            x.buy(0, 1);
            x.insure(1);
            x.minutes(21);
            Check.due("purse", x.broker(0, 0), 999 - 800 - 9 + 8 * 1197);
            Check.due("wet", x.deed(1, 5), 2);
            Check.due("sold on", x.sell(1, 1), 800);
            Check.due("9999 at most", x.broker(0, 0), 9999);
            Check.due("from this purse", x.broker(1, 0), 199);
            Check.due("wet stays", x.deed(1, 5), 2);
            Check.due("insured stays", x.deed(1, 6), 1);
            Check.law(x, "cost 7 if who < 1");
            x.buy(1, 2);
            Check.due("for what it costs that one", x.sell(2, 0), 10);
            Check.due("not insured stays, too", x.deed(2, 6), 0);
        });
    }

    private static void walksAndTells(Sentences s) {
        s.edge(14, "A BROKER goes: how many ACRES. IllegalArgumentException: they are more than it WALKS by.", () -> {
            ArchEnds x = Check.of("broker 0 at 7 pace 2;broker 0 at 0 pace 4;broker 0 at 15 pace 4");
            Check.dueThrow("3 up", NO_NUMBER, () -> x.go(0, 10));
            Check.dueThrow("3 down", NO_NUMBER, () -> x.go(0, 4));
            Check.due("2 up", x.go(0, 9), 2);
            Check.due("2 down", x.go(0, 7), 2);
            Check.due("to where it is", x.go(0, 7), 0);
            Check.due("acre", x.broker(0, 1), 7);
            Check.due("from the lowest", x.go(1, 4), 4);
            Check.due("to the lowest", x.go(1, 0), 4);
            Check.due("from the highest", x.go(2, 11), 4);
            Check.due("to the highest", x.go(2, 15), 4);
            for (int i : new int[] {16, -1, MIN, MAX}) {
                Check.dueThrow("go(0, " + i + ")", NO_SUCH, () -> x.go(0, i));
                Check.dueThrow("go(" + i + ", 0)", NO_SUCH, () -> x.go(i, 0));
            }
            Check.dueThrow("go(3, 0)", NO_SUCH, () -> x.go(3, 0));
        });
        s.edge(Sentences.TERMS, "a BROKER goes to an ACRE, as many ACRES as it WALKS by at most", () -> {
            ArchEnds x = Check.of("broker 0 at 7 pace 4");
            Check.law(x, "slow 1 if acre < 8;slow 9 if acre > 9");
            Check.dueThrow("4 by 3", NO_NUMBER, () -> x.go(0, 11));
            Check.due("3 by 3", x.go(0, 10), 3);
            Check.dueThrow("1 by 0", NO_NUMBER, () -> x.go(0, 9));
            Check.due("0 by 0", x.go(0, 10), 0);
        });
        s.edge(15, "The STATE of a SHOWER is told: what it was. IllegalArgumentException: it is none (0 to 2).", () -> {
            ArchEnds x = Check.of(FAIR);
            Check.due("tell(0, 2)", x.tell(0, 2), 0);
            Check.due("tell(0, 0)", x.tell(0, 0), 2);
            Check.due("tell(0, 1)", x.tell(0, 1), 0);
            Check.due("tell(0, 1) again", x.tell(0, 1), 1);
            for (int state : new int[] {3, -1, MIN, MAX}) {
                Check.dueThrow("tell(0, " + state + ")", NO_NUMBER, () -> x.tell(0, state));
                Check.dueThrow("tell(1, " + state + ")", NO_SUCH, () -> x.tell(1, state));
            }
            for (int i : new int[] {1, 6, -1, MIN, MAX}) {
                Check.dueThrow("tell(" + i + ", 1)", NO_SUCH, () -> x.tell(i, 1));
            }
            Check.due("state", x.shower(0, 6), 1);
        });
        s.edge(Sentences.TERMS, "a SHOWER is told to come, or not, or not known; ROAD is told", () -> {
            ArchEnds x = Check.of("shower 2 to 2 from 0 to 9 chance 0;shower 3 to 3 from 0 to 9");
            Check.due("not known", x.odds(2, 1), 0);
            x.tell(0, 1);
            Check.due("to come", x.odds(2, 1), 10000);
            x.minutes(1);
            Check.due("it comes", x.shower(0, 6), 1);
            x.tell(1, 2);
            Check.due("not", x.wets(3, 1), 0);
            x.tell(1, 0);
            Check.due("not known: it wets, too", x.wets(3, 1), 2);
            x.minutes(9);
            Check.due("none draws for it behind its first minute", x.shower(1, 6), 0);
        });
        s.edge(16, "ROAD is told: what it was.", () -> {
            ArchEnds x = Check.of("shower 0 to 15 from 0 to 99");
            Check.due("road(0)", x.road(0), 8);
            Check.due("road(15)", x.road(15), 0);
            Check.due("road(15) again", x.road(15), 15);
            Check.due("road", x.count(6), 15);
            for (int acre : new int[] {16, -1, MIN, MAX}) {
                Check.dueThrow("road(" + acre + ")", NO_SUCH, () -> x.road(acre));
            }
            Check.due("road stays", x.count(6), 15);
            Check.due("judged from there", x.stands(9, 1, 6), 6);
        });
    }

    private static void insures(Sentences s) {
        s.edge(17, "INSURED: PURSE of the OWNER then. IllegalStateException: it has none, it is so, or PURSE is less.", () -> {
            ArchEnds x = Check.of("broker 30 at 0 pace 1;broker 29 at 0 pace 1;deed 4 from 3 to 40 price 20;deed 4 from 3 to 40 price 20;"
                    + "wage 10");
            Check.dueThrow("it has none", CANNOT_BE, () -> x.insure(0));
            x.buy(0, 0);
            x.buy(1, 1);
            Check.dueThrow("9 is less than 10", CANNOT_BE, () -> x.insure(1));
            Check.due("not insured", x.deed(1, 6), 0);
            Check.due("10 is not", x.insure(0), 0);
            Check.due("insured", x.deed(0, 6), 1);
            Check.dueThrow("it is so", CANNOT_BE, () -> x.insure(0));
            Check.county(x, "wage 0");
            Check.dueThrow("it is so, for nothing", CANNOT_BE, () -> x.insure(0));
            Check.due("for nothing", x.insure(1), 9);
            for (int i : new int[] {2, 8, -1, MIN, MAX}) {
                Check.dueThrow("insure(" + i + ")", NO_SUCH, () -> x.insure(i));
            }
        });
        s.edge(Sentences.TERMS, "a DEED with an OWNER is INSURED (its PURSE is WAGE less)", () -> {
            ArchEnds x = Check.of("broker 99 at 0 pace 1;deed 4 from 3 to 40 price 0;wage 99");
            Check.law(x, "cost 0;bring 50");
            x.buy(0, 0);
            Check.due("wage, without the law", x.insure(0), 0);
            ArchEnds y = Check.of("broker 98 at 0 pace 1;deed 4 from 3 to 40 price 0;wage 99");
            y.buy(0, 0);
            Check.dueThrow("98 is less", CANNOT_BE, () -> y.insure(0));
        });
    }

    /** DRAW modulo 100 of the first draw from that seed, by long numbers. */
    private static long firstDraw(int seed) {
        long next = (1103515245L * seed + 12345L) & 0xFFFFFFFFL;
        return next / 65536 % 32768 % 100;
    }

    private static void draws(Sentences s) {
        s.edge(Sentences.TERMS, "(a) Each SHOWER, by numbers, of STATE 0 whose first MINUTE is MINUTE: STATE is 1, "
                + "if DRAW modulo 100 is below CHANCE, else 2.", () -> {
            Check.due("the first draw", firstDraw(1), 38);
            int[][] chances = {{38, 59, 2, 1}, {39, 58, 1, 2}, {0, 100, 2, 1}, {100, 0, 1, 2}};
            for (int[] c : chances) {
                ArchEnds x = Check.of("shower 0 to 0 from 0 to 9 chance " + c[0] + ";shower 0 to 0 from 0 to 9 chance " + c[1]);
                x.minutes(1);
                Check.due("the first by " + c[0], x.shower(0, 6), c[2]);
                Check.due("the second by " + c[1], x.shower(1, 6), c[3]);
            }
            ArchEnds y = Check.of("shower 0 to 0 from 0 to 9 chance 50;shower 0 to 0 from 0 to 9 chance 39;shower 0 to 0 from 2 to 9;"
                    + "shower 0 to 0 from 0 to 9 chance 58");
            y.tell(0, 2);
            y.minutes(1);
            Check.due("one of state 2 is passed by", y.shower(0, 6), 2);
            Check.due("38 is for the next", y.shower(1, 6), 1);
            Check.due("its first minute is not yet", y.shower(2, 6), 0);
            Check.due("58 is for the last", y.shower(3, 6), 2);
            y.minutes(1);
            Check.due("minute 1 is no first one", y.shower(2, 6), 0);
            y.minutes(1);
            Check.due("minute 2 is", y.shower(2, 6), 1);
            Check.due("three draws", y.seed(1), thirdSeed());
        });
        s.edge(Sentences.TERMS, "DRAW: SEED is 1103515245 times SEED and 12345, as an int that goes round; bits 16 to 30 "
                + "(SEED 1 at first).", () -> {
            ArchEnds x = Check.of("shower 0 to 0 from 0 to 9 chance 50");
            Check.due("seed at first", x.seed(1), 1);
            int[] seeds = {1, 0, -1, 2, 3, 7, 99, 12345, -12345, MAX, MIN, 1103515245, 65535, 65536, -65536, 0x7FFF0000, 1 << 30};
            for (int seed : seeds) {
                x.seed(seed);
                x.minutes(1);
                Check.due("state by seed " + seed, x.shower(0, 6), firstDraw(seed) < 50 ? 1 : 2);
                Check.due("seed behind " + seed, x.seed(0), (int) (1103515245L * seed + 12345L));
                x.undo();
            }
            for (int seed = 100; seed < 140; seed++) {
                long draw = firstDraw(seed * 7919191);
                ArchEnds y = Check.of("shower 0 to 0 from 0 to 9 chance " + draw + ";shower 0 to 0 from 1 to 9 chance " + (draw + 1));
                y.seed(seed * 7919191);
                y.minutes(1);
                Check.due(draw + " is not below it by seed " + seed * 7919191, y.shower(0, 6), 2);
                y.seed(seed * 7919191);
                y.minutes(1);
                Check.due(draw + " is below one more", y.shower(1, 6), 1);
            }
        });
        s.edge(50, "SEED: what it was.", () -> {
            ArchEnds x = Check.of("shower 0 to 0 from 0 to 9 chance 50");
            int before = 1;
            for (int n : new int[] {MIN, MAX, 0, -1, 1}) {
                Check.due("seed(" + n + ")", x.seed(n), before);
                before = n;
            }
            Check.due("no act", x.count(11), 0);
            x.minutes(1);
            Check.due("behind a draw", x.seed(5), 1103527590);
            x.minutes(1);
            Check.due("without a draw", x.seed(5), 5);
        });
    }

    private static int thirdSeed() {
        int seed = 1;
        for (int i = 0; i < 3; i++) {
            seed = (int) (1103515245L * seed + 12345L);
        }
        return seed;
    }

    private static void settles(Sentences s) {
        s.edge(Sentences.TERMS, "WET: in how many MINUTES an ARCH had its foot there since it has an OWNER.", () -> {
            ArchEnds x = Check.of(FAIR);
            x.minutes(15);
            Check.due("two arches without an owner", x.deed(0, 5), 0);
            x.buy(0, 0);
            Check.due("bought", x.deed(0, 5), 0);
            x.minutes(2);
            Check.due("two with one", x.deed(0, 5), 2);
            x.minutes(50);
            Check.due("four in all", x.deed(0, 5), 4);
        });
        s.edge(Sentences.TERMS, "(b) Each DEED with an OWNER, by numbers, that has MINUTE, if THE FOOT from ROAD is its ACRE and "
                + "there is an ARCH from ROAD: WET is 1 more, and the OWNER's PURSE more by what it BRINGS (9999 at most)", () -> {
            String county = "broker 50 at 0 pace 1;deed 4 from 14 to 17 price 0;shower 4 to 4 from 0 to 99;wage 10;"
                    + "deed 4 from 0 to 99 price 0;deed 5 from 0 to 99 price 0";
            ArchEnds x = Check.of(county);
            x.buy(0, 0);
            int[][] steps = {{14, 0}, {1, 1}, {2, 2}, {1, 1}, {1, 0}};
            for (int[] step : steps) {
                Check.due("minutes(" + step[0] + ") to " + (x.count(5) + step[0]), x.minutes(step[0]), step[1]);
            }
            Check.due("wet", x.deed(0, 5), 4);
            Check.due("purse", x.broker(0, 0), 90);
            Check.due("no owner, no row", x.count(10), 4);
            ArchEnds y = Check.of(county);
            y.buy(0, 0);
            y.buy(0, 1);
            y.buy(0, 2);
            y.road(9);
            Check.due("from road 9 it is on acre 4 in minutes 7 to 12", y.minutes(19), 6);
            Check.due("then on acre 5, which is dry", y.deed(0, 5) + y.deed(2, 5), 0);
            y.undo();
            y.undo();
            y.tell(0, 2);
            Check.due("no arch", y.minutes(19), 0);
            y.undo();
            y.undo();
            Check.due("two deeds from 14 to 17, one in 13 and 18", y.minutes(19), 10);
            Check.due("by numbers", y.log(1, 1) * 100 + y.log(2, 1) * 10 + y.log(3, 1), 101);
            ArchEnds z = Check.of("broker 999 at 0 pace 1;deed 4 from 0 to 99 price 0;deed 5 from 0 to 99 price 0;"
                    + "shower 4 to 5 from 0 to 99;wage 97");
            Check.law(z, DEAR);
            z.buy(0, 0);
            z.buy(0, 1);
            z.minutes(20);
            Check.due("just under it", z.broker(0, 0), 9994);
            z.minutes(1);
            Check.due("9999 at most", z.broker(0, 0), 9999);
            z.minutes(1);
            Check.due("9999 still", z.broker(0, 0), 9999);
            Check.due("wet goes on", z.deed(1, 5), 3);
        });
        s.edge(Sentences.TERMS, "then, if it is INSURED, MINUTE is its last one and WET is 0: the OWNER's PURSE is PRICE more "
                + "(9999 at most).", () -> {
            ArchEnds x = Check.of("broker 90 at 0 pace 1;deed 4 from 3 to 6 price 40;deed 4 from 3 to 6 price 20;wage 10;"
                    + "deed 4 from 14 to 14 price 7;shower 4 to 4 from 14 to 14");
            x.buy(0, 0);
            x.buy(0, 1);
            x.insure(0);
            x.minutes(6);
            Check.due("minute 5 is not its last one", x.broker(0, 0), 20);
            x.minutes(1);
            Check.due("minute 6 is", x.broker(0, 0), 60);
            x.minutes(4);
            Check.due("once, and not for one that is not insured", x.broker(0, 0), 60);
            x.buy(0, 2);
            x.insure(2);
            x.minutes(9);
            Check.due("wet in its last minute: what it brings alone", x.broker(0, 0), 60 - 7 - 10 + 10);
            ArchEnds y = Check.of("broker 99 at 0 pace 1;deed 4 from 0 to 20 price 40;wage 10;shower 4 to 4 from 13 to 13");
            y.buy(0, 0);
            y.insure(0);
            y.minutes(50);
            Check.due("wet once", y.broker(0, 0), 59);
            Check.due("in one minute", y.deed(0, 5), 1);
            ArchEnds z = Check.of("broker 999 at 0 pace 1;deed 4 from 0 to 99 price 0;deed 5 from 0 to 20 price 0;"
                    + "deed 0 from 0 to 21 price 800;shower 4 to 5 from 0 to 99;wage 9");
            Check.law(z, DEAR);
            z.buy(0, 0);
            z.buy(0, 1);
            z.buy(0, 2);
            z.insure(2);
            z.minutes(21);
            Check.due("ahead of its last minute", z.broker(0, 0), 999 - 800 - 9 + 8 * 1197);
            z.minutes(1);
            Check.due("9999 at most", z.broker(0, 0), 9999);
        });
    }

    private static void minutes(Sentences s) {
        s.edge(18, "So many MINUTES more (1 to 100): how often an ARCH stood on a DEED. IllegalArgumentException: they are none.",
                () -> {
            ArchEnds x = Check.of(FAIR);
            x.buy(0, 0);
            for (int n : new int[] {0, -1, 101, MIN, MAX}) {
                Check.dueThrow("minutes(" + n + ")", NO_NUMBER, () -> x.minutes(n));
            }
            Check.due("minute stays", x.count(5), 0);
            Check.due("minutes(1)", x.minutes(1), 0);
            Check.due("minute", x.count(5), 1);
            Check.due("minutes(100)", x.minutes(100), 6);
            Check.due("minute", x.count(5), 101);
            ArchEnds y = Check.of("deed 4 from 0 to 99 price 0;".repeat(8) + "broker 9 at 0 pace 1;shower 4 to 4 from 0 to 99");
            for (int d = 0; d < 8; d++) {
                y.buy(0, d);
            }
            Check.due("eight deeds", y.minutes(100), 48);
            Check.due("each of them", y.deed(0, 5) * 10 + y.deed(7, 5), 66);
        });
        s.edge(Sentences.TERMS, "(c) MINUTE is 1 more (9999 at most).", () -> {
            ArchEnds x = Check.of("minute 999");
            for (int i = 0; i < 89; i++) {
                x.minutes(100);
            }
            x.minutes(99);
            Check.due("minute", x.count(5), 9998);
            x.minutes(1);
            Check.due("minute", x.count(5), 9999);
            Check.due("one more", x.minutes(1), 0);
            Check.due("9999 at most", x.count(5), 9999);
            x.minutes(100);
            Check.due("9999 still", x.count(5), 9999);
            Check.due("no shower goes on", x.dry(), 0);
        });
    }

    private static void log(Sentences s) {
        s.edge(Sentences.TERMS, "THE LOG: the latest 60 times that an ARCH stood on a DEED: MINUTE, the DEED, the ACRE, what it brought.",
                () -> {
            ArchEnds x = Check.of("broker 999 at 0 pace 2;wage 1;shower 0 to 15 from 0 to 999;deed 4 from 0 to 999 price 0");
            x.buy(0, 0);
            for (int i = 0; i < 10; i++) {
                x.minutes(96);
                Check.due("rows of day " + i, x.count(10), 6 * (i + 1));
            }
            Check.due("the first of 60", x.log(59, 0), 13);
            x.minutes(14);
            Check.due("60, not 61", x.count(10), 60);
            Check.due("the latest", x.log(0, 0), 973);
            Check.due("the first is gone", x.log(59, 0), 14);
            Check.due("none behind", x.log(60, 0), -1);
            Check.due("led", x.led(4, false), 60);
        });
        s.edge(49, "THE LOG so many ago (0 the latest) what 0 the MINUTE, 1 the DEED, 2 the ACRE, 3 what it brought; NONE without.",
                () -> {
            ArchEnds x = Check.of(FAIR);
            for (int what = 0; what < 4; what++) {
                Check.due("an empty log, what " + what, x.log(0, what), -1);
            }
            x.buy(0, 0);
            x.minutes(15);
            int[][] rows = {{14, 0, 4, 10}, {13, 0, 4, 10}, {-1, -1, -1, -1}};
            for (int ago = 0; ago < rows.length; ago++) {
                for (int what = 0; what < 4; what++) {
                    Check.due("log(" + ago + ", " + what + ")", x.log(ago, what), rows[ago][what]);
                }
            }
            for (int ago : new int[] {-1, 59, 60, MIN, MAX}) {
                Check.due("log(" + ago + ", 0)", x.log(ago, 0), -1);
            }
        });
        s.edge(49, "NoSuchElementException: another what.", () -> {
            ArchEnds x = Check.of(FAIR);
            for (int what : new int[] {4, -1, MIN, MAX}) {
                Check.dueThrow("log(0, " + what + ") of an empty log", NO_WHAT, () -> x.log(0, what));
            }
            x.buy(0, 0);
            x.minutes(15);
            for (int what : new int[] {4, -1, MIN, MAX}) {
                Check.dueThrow("log(0, " + what + ")", NO_WHAT, () -> x.log(0, what));
                Check.dueThrow("log(-1, " + what + ")", NO_WHAT, () -> x.log(-1, what));
            }
        });
        s.edge(Sentences.TERMS, "LED: how many rows of THE LOG are of an ACRE; the MINUTE of the latest (none).", () -> {
            ArchEnds x = Check.of("broker 999 at 0 pace 2;wage 1;shower 0 to 15 from 0 to 999;deed 8 from 42 to 54 price 0;road 8;"
                    + "deed 8 from 42 to 42 price 0;deed 15 from 0 to 999 price 0");
            Check.due("no row", x.led(8, true), -1);
            x.buy(0, 0);
            x.buy(0, 1);
            x.minutes(60);
            Check.due("rows", x.led(8, false), 3);
            Check.due("the latest", x.led(8, true), 54);
            x.road(9);
            x.buy(0, 2);
            x.minutes(36);
            Check.due("rows of acre 15", x.led(15, false), 6);
            Check.due("the latest of acre 8 still", x.led(8, true), 54);
        });
        s.edge(48, "LED: how many rows (minute false), or the MINUTE; NONE.", () -> {
            ArchEnds x = Check.of(FAIR);
            x.buy(0, 0);
            x.minutes(15);
            Check.due("rows", x.led(4, false), 2);
            Check.due("the minute", x.led(4, true), 14);
            for (int acre : new int[] {0, 3, 5, 15}) {
                Check.due("no rows of " + acre, x.led(acre, false), 0);
                Check.due("no minute of " + acre, x.led(acre, true), -1);
            }
            for (int acre : new int[] {16, -1, MIN, MAX}) {
                Check.dueThrow("led(" + acre + ", false)", NO_SUCH, () -> x.led(acre, false));
                Check.dueThrow("led(" + acre + ", true)", NO_SUCH, () -> x.led(acre, true));
            }
        });
    }

    private static void ahead(Sentences s) {
        String county = "broker 50 at 0 pace 2;deed 4 from 3 to 40 price 20;wage 10;shower 0 to 15 from 10 to 99 chance 0";
        s.edge(Sentences.TERMS, "AHEAD by N MINUTES (0 to 200): as so many MINUTES in which each SHOWER of STATE 0 comes (no DRAWS).",
                () -> {
            ArchEnds x = Check.of(county + ";deed 3 from 199 to 199 price 0;shower 3 to 3 from 199 to 200");
            x.buy(0, 0);
            x.buy(0, 1);
            String all = allOf(x);
            Check.due("none", x.ahead(0, 0), 30);
            Check.due("to minute 12", x.ahead(0, 13), 30);
            Check.due("to minute 13", x.ahead(0, 14), 40);
            Check.due("to minute 198", x.ahead(0, 199), 90);
            Check.due("to minute 199", x.ahead(0, 200), 100);
            Check.due("nothing stays", allOf(x).equals(all), true);
            x.tell(0, 2);
            Check.due("one of state 2 does not come", x.ahead(0, 50), 30);
            x.tell(0, 1);
            Check.due("one of state 1 comes", x.ahead(0, 50), 90);
        });
        s.edge(45, "AHEAD of a BROKER: PURSE. IllegalArgumentException: N is none.", () -> {
            ArchEnds x = Check.of(county);
            x.buy(0, 0);
            Check.due("ahead(0, 200)", x.ahead(0, 200), 90);
            for (int n : new int[] {201, -1, MIN, MAX}) {
                Check.dueThrow("ahead(0, " + n + ")", NO_NUMBER, () -> x.ahead(0, n));
                Check.dueThrow("ahead(1, " + n + ")", NO_SUCH, () -> x.ahead(1, n));
            }
            for (int i : new int[] {1, 5, -1, MIN, MAX}) {
                Check.dueThrow("ahead(" + i + ", 0)", NO_SUCH, () -> x.ahead(i, 0));
            }
            ArchEnds y = Check.of("broker 999 at 0 pace 1;deed 4 from 0 to 99 price 0;deed 5 from 0 to 99 price 0;wage 99;"
                    + "shower 4 to 5 from 0 to 99");
            Check.law(y, DEAR);
            y.buy(0, 0);
            y.buy(0, 1);
            Check.due("9999 at most", y.ahead(0, 60), 9999);
        });
    }

    private static String chance(String rest) {
        return "broker 50 at 0 pace 2;broker 7 at 0 pace 1;deed 4 from 3 to 40 price 20;wage 10;shower 0 to 15 from 10 to 99" + rest;
    }

    private static void trials(Sentences s) {
        s.edge(Sentences.TERMS, "TRIAL of N MINUTES (0 to 100) from now (draws, too; nothing stays): how often an ARCH stood on a DEED; "
                + "PURSES of all then.", () -> {
            ArchEnds x = Check.of(chance(" chance 39"));
            x.buy(0, 0);
            x.image();
            String all = allOf(x);
            Check.due("trial(0)", x.trial(0, false), 0);
            Check.due("trial(13)", x.trial(13, false), 0);
            Check.due("trial(14)", x.trial(14, false), 1);
            Check.due("trial(100)", x.trial(100, false), 6);
            Check.due("purses of none", x.trial(0, true), 37);
            Check.due("purses", x.trial(100, true), 97);
            Check.due("nothing stays", allOf(x).equals(all), true);
            Check.due("no act", x.count(11), 1);
            x.seed(5);
            Check.due("a draw of 55 is not below 39", x.trial(100, false), 0);
            Check.due("seed stays", x.seed(1), 5);
            x.minutes(14);
            Check.due("from now", x.trial(100, false), 5);
            Check.due("purses from now", x.trial(100, true), 97);
            x.back();
            Check.due("the image stays", allOf(x).equals(all), true);
            for (int chance = 58; chance <= 59; chance++) {
                ArchEnds y = Check.of(chance("") + ";shower 0 to 15 from 96 to 999 chance " + chance
                        + ";deed 4 from 97 to 999 price 0");
                y.buy(0, 1);
                Check.due("one draw at minute 10", y.minutes(96), 0);
                Check.due("a second draw of 58", y.trial(20, false), chance == 58 ? 0 : 6);
            }
        });
        s.edge(46, "TRIAL: how often (purses false), or PURSES. IllegalArgumentException: N is none.", () -> {
            ArchEnds x = Check.of(chance(""));
            x.buy(0, 0);
            Check.due("how often", x.trial(100, false), 6);
            Check.due("purses", x.trial(100, true), 97);
            for (int n : new int[] {101, -1, MIN, MAX}) {
                Check.dueThrow("trial(" + n + ", false)", NO_NUMBER, () -> x.trial(n, false));
                Check.dueThrow("trial(" + n + ", true)", NO_NUMBER, () -> x.trial(n, true));
            }
            Check.due("without brokers", new ArchEnds().trial(100, true), 0);
        });
        s.edge(Sentences.TERMS, "SPAN: the fewest and the most times so from SEED 1, 2, .. 6.", () -> {
            long[] draws = {38, 8, 47, 17, 55, 26};
            for (int seed = 1; seed <= 6; seed++) {
                Check.due("draw of seed " + seed, firstDraw(seed), draws[seed - 1]);
            }
            int[][] spans = {{8, 0, 0}, {9, 0, 6}, {55, 0, 6}, {56, 6, 6}};
            for (int[] span : spans) {
                ArchEnds x = Check.of(chance(" chance " + span[0]));
                x.buy(0, 0);
                x.seed(77);
                String all = allOf(x);
                Check.due("the fewest by " + span[0], x.span(50, false), span[1]);
                Check.due("the most by " + span[0], x.span(50, true), span[2]);
                Check.due("nothing stays", allOf(x).equals(all), true);
            }
            ArchEnds y = Check.of("broker 50 at 0 pace 2;deed 4 from 3 to 40 price 20;shower 4 to 4 from 13 to 15 chance 27;"
                    + "shower 4 to 4 from 16 to 18 chance 16");
            y.buy(0, 0);
            Check.due("both come by seed 6 alone", y.span(50, true), 6);
            ArchEnds z = Check.of("broker 50 at 0 pace 2;deed 4 from 3 to 40 price 20;shower 4 to 4 from 13 to 15 chance 38;"
                    + "shower 4 to 4 from 16 to 18 chance 58");
            z.buy(0, 0);
            z.seed(6);
            Check.due("none comes by seed 1 alone", z.span(50, false), 0);
        });
        s.edge(47, "SPAN: the fewest (most false), or the most. IllegalArgumentException: N is none.", () -> {
            ArchEnds x = Check.of(chance(" chance 30"));
            x.buy(0, 0);
            Check.due("the fewest", x.span(100, false), 0);
            Check.due("the most", x.span(100, true), 6);
            Check.due("of none", x.span(0, true), 0);
            Check.due("up to minute 12", x.span(13, true), 0);
            Check.due("up to minute 13", x.span(14, true), 1);
            for (int n : new int[] {101, -1, MIN, MAX}) {
                Check.dueThrow("span(" + n + ", false)", NO_NUMBER, () -> x.span(n, false));
                Check.dueThrow("span(" + n + ", true)", NO_NUMBER, () -> x.span(n, true));
            }
        });
    }

    private static void undone(Sentences s) {
        s.edge(Sentences.TERMS, "UNDONE: the latest ACT not undone yet (12 are remembered; MINUTES of one call are one): "
                + "all is as ahead of it (but for the TAPE, fault(), THE IMAGE).", () -> {
            for (int last = 0; last <= 6; last++) {
                ArchEnds x = Check.of(FAIR);
                for (int i = 0; i < last; i++) {
                    act(x, i);
                }
                String ahead = allOf(x);
                act(x, last);
                Check.due("acts", x.count(11), last + 1);
                Check.due("act " + last + " changes something", allOf(x).equals(ahead), false);
                Check.due("undo", x.undo(), true);
                Check.due("as ahead of act " + last, allOf(x).equals(ahead), true);
            }
            ArchEnds y = Check.of(FAIR);
            String ahead = allOf(y);
            for (int i = 0; i <= 6; i++) {
                act(y, i);
            }
            y.image();
            EdgesOfTexts.countyFault(y, "road 1;", 7);
            y.feed(0x726F6164, 0x20333B77, 0x61676520, 0x373B6D69, 0x6E757465);
            for (int i = 6; i >= 0; i--) {
                Check.due("undo act " + i, y.undo(), true);
                Check.due("acts", y.count(11), i);
            }
            Check.due("no more", y.undo(), false);
            Check.due("as ahead of all of them", allOf(y).equals(ahead), true);
            Check.due("fault stays", y.fault(), 7);
            Check.due("the image stays", y.back(), true);
            Check.due("road of the image", y.count(6), 9);
            Check.due("the tape stays", y.end(20), true);
        });
        s.edge(Sentences.TERMS, "all is as ahead of it", () -> {
            ArchEnds x = Check.of("broker 9 at 0 pace 2;wage 1;shower 0 to 15 from 0 to 999;deed 4 from 0 to 999 price 0");
            x.buy(0, 0);
            x.minutes(15);
            x.minutes(2);
            Check.due("the latest row", x.log(0, 0), 16);
            x.undo();
            Check.due("rows", x.count(10), 2);
            Check.due("the latest row ahead of it", x.log(0, 0), 14);
            x.minutes(81);
            for (int day = 1; day < 10; day++) {
                x.minutes(96);
            }
            Check.due("60 rows", x.count(10), 60);
            x.image();
            x.minutes(96);
            Check.due("the first that is kept", x.log(59, 0), 109);
            x.undo();
            Check.due("60 rows still", x.count(10), 60);
            Check.due("the first is back", x.log(59, 0), 13);
            Check.due("the latest is back", x.log(0, 0), 882);
            x.minutes(50);
            x.back();
            Check.due("the first of the image", x.log(59, 0), 13);
            Check.due("the latest of the image", x.log(0, 0), 882);
        });
        s.edge(51, "UNDONE: whether there was one.", () -> {
            ArchEnds x = Check.of(FAIR);
            Check.due("none at first", x.undo(), false);
            for (int i = 0; i <= 12; i++) {
                x.road(i);
            }
            Check.due("12 are remembered", x.count(11), 12);
            for (int i = 11; i >= 0; i--) {
                Check.due("undo", x.undo(), true);
                Check.due("road", x.count(6), i);
                Check.due("acts", x.count(11), i);
            }
            Check.due("the 13th is not", x.undo(), false);
            Check.due("nothing happens", x.count(6), 0);
            for (int i = 0; i < 40; i++) {
                x.road(i % 16);
            }
            for (int i = 38; i >= 27; i--) {
                x.undo();
                Check.due("road of " + i, x.count(6), i % 16);
            }
            Check.due("no more", x.undo(), false);
            x.road(5);
            x.road(6);
            x.undo();
            x.road(7);
            x.undo();
            Check.due("one undone is no more", x.count(6), 5);
            x.undo();
            Check.due("back to the 27th", x.count(6), 27 % 16);
        });
        s.edge(Sentences.TERMS, "A text, going back: none are remembered.", () -> {
            ArchEnds x = Check.of(FAIR);
            x.road(1);
            Check.county(x, "");
            Check.due("a text of the county", x.count(11), 0);
            Check.due("undo", x.undo(), false);
            Check.due("road", x.count(6), 1);
            x.road(2);
            Check.law(x, "");
            Check.due("a text of the law", x.count(11), 0);
            Check.due("undo", x.undo(), false);
            x.image();
            x.road(3);
            x.back();
            Check.due("going back", x.count(11), 0);
            Check.due("undo", x.undo(), false);
            x.road(4);
            EdgesOfTexts.countyFault(x, "x", 0);
            EdgesOfTexts.lawFault(x, "x", 0);
            x.image();
            Check.due("a wrong text, an image: the act is remembered", x.count(11), 1);
            ArchEnds y = Check.of(FAIR);
            y.road(3);
            Check.due("going back to none", y.back(), false);
            Check.due("the act is remembered", y.count(11), 1);
            for (int i = 1; i < 12; i++) {
                Check.county(y, "");
            }
            y.road(4);
            Check.tape(y, "");
            Check.dueThrow("a 13th text", UnsupportedOperationException.class, () -> y.county());
            Check.due("the act is remembered", y.undo(), true);
        });
    }

    private static void manyCalls(Sentences s) {
        s.edge(Sentences.TERMS, "An object is used for at most 512 calls after it has been made", () -> {
            ArchEnds x = Check.of(FAIR);
            Check.law(x, "cost 1 if wet;bring 2 if owned or many > 3;slow 1 if hour > 40");
            x.buy(0, 0);
            int calls = 20;
            for (; calls < 506; calls += 9) {
                x.minutes(100);
                x.road(calls % 16);
                x.undo();
                x.undo();
                Check.due("span", x.span(100, true), 6);
                Check.due("deals", x.deals(1, true), 0);
                Check.due("ahead", x.ahead(0, 200), 29 + 72);
                Check.due("hope", x.hope(0), 600);
                x.image();
            }
            for (; calls < 511; calls++) {
                x.back();
            }
            Check.due("the last call", x.minutes(100), 6);
        });
    }

    private static void image(Sentences s) {
        s.edge(Sentences.TERMS, "THE IMAGE (one) of all may be kept, and gone back to (but for the TAPE, fault() and THE IMAGE itself).",
                () -> {
            ArchEnds x = Check.of(FAIR);
            Check.law(x, "cost 3;bring 4");
            x.buy(0, 0);
            x.minutes(15);
            x.seed(-5);
            x.image();
            String kept = allOf(x);
            x.insure(0);
            x.go(0, 1);
            x.tell(0, 2);
            x.road(2);
            x.minutes(100);
            x.seed(6);
            Check.law(x, "");
            Check.county(x, "shower 0 to 1 from 0 to 9;broker 9 at 9 pace 1;deed 9 from 0 to 9 price 9;wage 9;minute 9");
            EdgesOfTexts.countyFault(x, "road 1;", 7);
            x.feed(1, 2, 3, 4, 5);
            Check.due("back()", x.back(), true);
            Check.due("all as it was", allOf(x).equals(kept), true);
            Check.due("no act is remembered", x.count(11), 0);
            Check.due("costs by the law of the image", x.costs(1, 0), 23);
            Check.due("fault stays", x.fault(), 7);
            Check.due("the tape stays", x.end(20), true);
            String once = allOf(x);
            x.road(3);
            Check.due("back() again", x.back(), true);
            Check.due("all as it was", allOf(x).equals(once), true);
            x.road(11);
            x.image();
            x.road(12);
            x.back();
            Check.due("the latest image alone", x.count(6), 11);
        });
        s.edge(52, "THE IMAGE is kept.", () -> {
            ArchEnds x = new ArchEnds();
            x.image();
            Check.county(x, FAIR);
            Check.due("an image of a new county", x.back(), true);
            Check.due("nothing there", x.count(0) + x.count(1) + x.count(2) + x.count(3), 0);
            Check.county(x, FAIR);
            x.road(3);
            x.image();
            Check.due("acts stay", x.count(11), 1);
            x.undo();
            Check.due("undone", x.count(6), 8);
            x.back();
            Check.due("the image has the act", x.count(6), 3);
        });
        s.edge(53, "One goes back to THE IMAGE: true; false, and nothing happens, if none was kept.", () -> {
            ArchEnds x = Check.of(FAIR);
            x.road(3);
            String all = allOf(x);
            Check.due("none was kept", x.back(), false);
            Check.due("nothing happens", allOf(x).equals(all), true);
            x.image();
            x.undo();
            Check.due("one was kept", x.back(), true);
            Check.due("road", x.count(6), 3);
            Check.due("as often as one likes", x.back(), true);
        });
    }
}
