import java.util.NoSuchElementException;

/** Promises 7 to 18 and 45 to 53: what is bought, sold, walked, told and insured, minutes, the log, acts undone. */
final class ActsTest {
    private static final Class<IndexOutOfBoundsException> NO_SUCH = IndexOutOfBoundsException.class;
    private static final Class<IllegalArgumentException> NO_NUMBER = IllegalArgumentException.class;
    private static final Class<IllegalStateException> CANNOT_BE = IllegalStateException.class;
    private static final String FAIR = "broker 50 at 0 pace 2;broker 60 at 5 pace 1;deed 4 from 3 to 40 price 20;"
            + "deed 8 from 0 to 9 price 55;wage 10;shower 0 to 15 from 0 to 999";

    public static void main(String[] args) {
        buys();
        sells();
        walks();
        tellsAndRoad();
        insures();
        minutes();
        draws();
        purseHasALimit();
        logOfSixty();
        logOfOneMore();
        lastMinute();
        ahead();
        trialAndSpan();
        undone();
        forgotten();
        image();
        Check.finish();
    }

    private static void buys() {
        ArchEnds x = Check.of(FAIR);
        Check.dueThrow("buy(2, 0)", NO_SUCH, () -> x.buy(2, 0));
        Check.dueThrow("buy(-1, 0)", NO_SUCH, () -> x.buy(-1, 0));
        Check.dueThrow("buy(0, 2)", NO_SUCH, () -> x.buy(0, 2));
        Check.dueThrow("buy(0, -1)", NO_SUCH, () -> x.buy(0, -1));
        Check.dueThrow("costs(2, 0)", NO_SUCH, () -> x.costs(2, 0));
        Check.dueThrow("costs(0, 2)", NO_SUCH, () -> x.costs(0, 2));
        Check.dueThrow("purse is less", CANNOT_BE, () -> x.buy(0, 1));
        Check.due("no act that throws is remembered", x.count(11), 0);
        Check.due("costs", x.costs(0, 0), 20);
        Check.due("buy(0, 0)", x.buy(0, 0), 30);
        Check.due("purse", x.broker(0, 0), 30);
        Check.due("its deeds", x.broker(0, 4), 1);
        Check.due("worth", x.broker(0, 5), 50);
        Check.due("owner", x.deed(0, 4), 0);
        Check.due("deeds with an owner", x.count(9), 1);
        Check.due("purses", x.count(8), 90);
        Check.due("acts", x.count(11), 1);
        Check.dueThrow("it has an owner", CANNOT_BE, () -> x.buy(0, 0));
        Check.dueThrow("it has another owner", CANNOT_BE, () -> x.buy(1, 0));
        Check.due("buy(1, 1)", x.buy(1, 1), 5);
        Check.due("deeds with an owner", x.count(9), 3);
        ArchEnds y = Check.of("broker 25 at 0 pace 2;deed 4 from 3 to 40 price 20");
        Check.law(y, "cost 5");
        Check.due("all of a purse", y.buy(0, 0), 0);
    }

    private static void sells() {
        ArchEnds x = Check.of(FAIR + ";broker 19 at 0 pace 1");
        Check.dueThrow("sell(2, 0)", NO_SUCH, () -> x.sell(2, 0));
        Check.dueThrow("sell(0, 3)", NO_SUCH, () -> x.sell(0, 3));
        Check.dueThrow("sell(0, -1)", NO_SUCH, () -> x.sell(0, -1));
        Check.dueThrow("it has none", CANNOT_BE, () -> x.sell(0, 0));
        x.buy(0, 0);
        x.insure(0);
        Check.dueThrow("that one is its owner", NO_NUMBER, () -> x.sell(0, 0));
        Check.dueThrow("that purse is less", CANNOT_BE, () -> x.sell(0, 2));
        x.minutes(16);
        Check.due("wet", x.deed(0, 5), 3);
        Check.due("sell(0, 1)", x.sell(0, 1), 20);
        Check.due("owner", x.deed(0, 4), 1);
        Check.due("wet stays", x.deed(0, 5), 3);
        Check.due("insured stays", x.deed(0, 6), 1);
        Check.due("the seller's purse", x.broker(0, 0), 70);
        Check.due("the buyer's purse", x.broker(1, 0), 40);
        Check.law(x, "cost 3 if who < 1");
        Check.due("for what it costs that one", x.sell(0, 0), 23);
        Check.due("the buyer's purse", x.broker(0, 0), 47);
        Check.due("the seller's purse", x.broker(1, 0), 63);
        ArchEnds y = Check.of("broker 50 at 0 pace 2;broker 20 at 5 pace 1;deed 4 from 3 to 40 price 20");
        y.buy(0, 0);
        Check.due("for all of a purse", y.sell(0, 1), 20);
        Check.due("the buyer's purse", y.broker(1, 0), 0);
    }

    private static void walks() {
        ArchEnds x = Check.of(FAIR);
        Check.dueThrow("go(2, 0)", NO_SUCH, () -> x.go(2, 0));
        Check.dueThrow("go(0, 16)", NO_SUCH, () -> x.go(0, 16));
        Check.dueThrow("go(0, -1)", NO_SUCH, () -> x.go(0, -1));
        Check.dueThrow("more than it walks by", NO_NUMBER, () -> x.go(0, 3));
        Check.due("go(0, 2)", x.go(0, 2), 2);
        Check.due("acre", x.broker(0, 1), 2);
        Check.due("go(0, 1)", x.go(0, 1), 1);
        Check.due("go(0, 1) again", x.go(0, 1), 0);
        Check.due("to stay is an act, too", x.count(11), 3);
        Check.law(x, "slow 1 if acre < 2");
        Check.dueThrow("slower", NO_NUMBER, () -> x.go(0, 3));
        Check.due("go(0, 2)", x.go(0, 2), 1);
        Check.due("go(0, 4)", x.go(0, 4), 2);
    }

    private static void tellsAndRoad() {
        ArchEnds x = Check.of(FAIR);
        Check.dueThrow("tell(1, 3)", NO_SUCH, () -> x.tell(1, 3));
        Check.dueThrow("tell(0, 3)", NO_NUMBER, () -> x.tell(0, 3));
        Check.dueThrow("tell(0, -1)", NO_NUMBER, () -> x.tell(0, -1));
        Check.due("wets ahead", x.wets(3, 3), 1);
        Check.due("tell(0, 2)", x.tell(0, 2), 0);
        Check.due("wets none", x.wets(3, 3), 0);
        Check.due("tell(0, 1)", x.tell(0, 1), 2);
        Check.due("tell(0, 0)", x.tell(0, 0), 1);
        Check.due("state", x.shower(0, 6), 0);
        Check.due("road(15)", x.road(15), 8);
        Check.due("road(0)", x.road(0), 15);
        Check.due("road", x.count(6), 0);
        Check.dueThrow("road(16)", NO_SUCH, () -> x.road(16));
        Check.dueThrow("road(-1)", NO_SUCH, () -> x.road(-1));
        Check.due("acts", x.count(11), 5);
    }

    private static void insures() {
        ArchEnds x = Check.of(FAIR);
        Check.dueThrow("insure(2)", NO_SUCH, () -> x.insure(2));
        Check.dueThrow("insure(-1)", NO_SUCH, () -> x.insure(-1));
        Check.dueThrow("it has no owner", CANNOT_BE, () -> x.insure(0));
        x.buy(1, 1);
        Check.dueThrow("purse is less", CANNOT_BE, () -> x.insure(1));
        x.buy(0, 0);
        Check.due("insure(0)", x.insure(0), 20);
        Check.due("insured", x.deed(0, 6), 1);
        Check.dueThrow("it is so", CANNOT_BE, () -> x.insure(0));
        x.minutes(60);
        Check.due("wet, so that insurance pays nothing", x.broker(0, 0), 80);
        ArchEnds y = Check.of("broker 50 at 0 pace 1;deed 4 from 3 to 6 price 40;wage 10;road 8");
        y.buy(0, 0);
        Check.due("all of a purse", y.insure(0), 0);
        y.minutes(6);
        Check.due("not yet", y.broker(0, 0), 0);
        y.minutes(1);
        Check.due("dry in its last minute", y.broker(0, 0), 40);
        y.minutes(9);
        Check.due("once", y.broker(0, 0), 40);
        ArchEnds z = Check.of("broker 50 at 0 pace 1;deed 4 from 14 to 14 price 40;wage 10;shower 4 to 4 from 14 to 14");
        z.buy(0, 0);
        z.insure(0);
        Check.due("wet in its last minute", z.minutes(20), 1);
        Check.due("the foot alone brought something", z.broker(0, 0), 10);
    }

    private static void minutes() {
        ArchEnds x = Check.of(FAIR);
        Check.dueThrow("minutes(0)", NO_NUMBER, () -> x.minutes(0));
        Check.dueThrow("minutes(101)", NO_NUMBER, () -> x.minutes(101));
        Check.dueThrow("minutes(-1)", NO_NUMBER, () -> x.minutes(-1));
        x.buy(0, 0);
        x.buy(1, 1);
        Check.due("minutes(13)", x.minutes(13), 0);
        Check.due("minutes(5)", x.minutes(5), 5);
        Check.due("minute", x.count(5), 18);
        Check.due("purse", x.broker(0, 0), 80);
        Check.due("wet", x.deed(0, 5), 5);
        Check.due("the other deed", x.deed(1, 5), 0);
        Check.due("rows", x.count(10), 5);
        int[] row = {17, 0, 4, 10};
        for (int what = 0; what < 4; what++) {
            Check.due("log(0, " + what + ")", x.log(0, what), row[what]);
        }
        Check.due("log(4, 0)", x.log(4, 0), 13);
        Check.due("log(5, 0)", x.log(5, 0), -1);
        Check.due("log(-1, 0)", x.log(-1, 0), -1);
        Check.dueThrow("log(0, 4)", NoSuchElementException.class, () -> x.log(0, 4));
        Check.dueThrow("log(9, -1)", NoSuchElementException.class, () -> x.log(9, -1));
        Check.due("led(4)", x.led(4, false), 5);
        Check.due("led(4) when", x.led(4, true), 17);
        Check.due("led(8)", x.led(8, false), 0);
        Check.due("led(8) when", x.led(8, true), -1);
        Check.dueThrow("led(16)", NO_SUCH, () -> x.led(16, true));
        Check.dueThrow("led(-1)", NO_SUCH, () -> x.led(-1, false));
        Check.due("minutes(100)", x.minutes(100), 1);
        Check.due("minute", x.count(5), 118);
        Check.due("two deeds in one minute, by numbers", twoDeeds(), 1);
    }

    private static int twoDeeds() {
        ArchEnds x = Check.of("broker 50 at 0 pace 2;broker 60 at 5 pace 1;deed 4 from 13 to 13 price 20;"
                + "deed 4 from 0 to 99 price 5;wage 10;shower 0 to 15 from 0 to 999");
        Check.law(x, "bring 1 if who > 0;bring 7 if owned;bring 20 if not owned");
        x.buy(0, 0);
        x.buy(1, 1);
        Check.due("minutes(14)", x.minutes(14), 2);
        Check.due("what it brought the other", x.log(0, 3), 18);
        Check.due("what it brought the first", x.log(1, 3), 17);
        return x.log(0, 1);
    }

    private static void draws() {
        ArchEnds x = Check.of("shower 0 to 0 from 0 to 0 chance 38;shower 0 to 0 from 0 to 0 chance 59;"
                + "shower 0 to 0 from 1 to 1 chance 13;shower 0 to 0 from 1 to 1 chance 16;shower 0 to 0 from 1 to 5;"
                + "shower 0 to 0 from 3 to 5 chance 0");
        x.minutes(1);
        int[] first = {2, 1, 0, 0, 0, 0};
        for (int i = 0; i < 6; i++) {
            Check.due("state of " + i, x.shower(i, 6), first[i]);
        }
        Check.due("seed behind two draws", x.seed(1103527590), (1103515245 * 1103527590 + 12345));
        Check.due("seed behind one draw", x.seed(1103515245 * 1103527590 + 12345), 1103527590);
        x.minutes(1);
        Check.due("13 is not below 13", x.shower(2, 6), 2);
        Check.due("15 is below 16", x.shower(3, 6), 1);
        Check.due("100 surely", x.shower(4, 6), 1);
        x.minutes(1);
        Check.due("not yet", x.shower(5, 6), 0);
        x.minutes(1);
        Check.due("0 never", x.shower(5, 6), 2);
        ArchEnds y = Check.of("shower 0 to 0 from 0 to 9 chance 50;shower 0 to 0 from 0 to 9 chance 50;minute 1");
        y.minutes(5);
        Check.due("its first minute is over", y.shower(0, 6), 0);
        Check.county(y, "minute 0");
        y.tell(0, 2);
        y.minutes(1);
        Check.due("a told one stays as it is", y.shower(0, 6), 2);
        Check.due("and takes no draw", y.shower(1, 6), 1);
        Check.due("one draw", y.seed(1), 1103527590);
        ArchEnds z = Check.of("shower 0 to 0 from 0 to 9 chance 50");
        z.seed(-5);
        z.minutes(1);
        Check.due("a seed below 0", z.seed(0), -5 * 1103515245 + 12345);
    }

    private static void purseHasALimit() {
        ArchEnds x = Check.of("broker 999 at 0 pace 2;broker 999 at 5 pace 1;deed 4 from 0 to 999 price 20;"
                + "deed 9 from 0 to 999 price 9;wage 99;shower 0 to 15 from 0 to 999");
        Check.law(x, "bring 99;".repeat(11) + "bring 99");
        x.buy(0, 0);
        Check.due("minutes", x.minutes(100), 6);
        Check.due("purse", x.broker(0, 0), 979 + 6 * 1287);
        Check.due("ahead", x.ahead(0, 50), 9999);
        x.minutes(50);
        Check.due("9999 at most", x.broker(0, 0), 9999);
        Check.due("what it brought", x.log(0, 3), 1287);
        Check.due("sold on", x.sell(0, 1), 20);
        Check.due("9999 at most", x.broker(0, 0), 9999);
        Check.due("the buyer", x.broker(1, 0), 979);
        x.sell(0, 0);
        x.insure(0);
        Check.due("insured", x.broker(0, 0), 9999 - 20 - 99);
    }

    private static void logOfSixty() {
        ArchEnds x = Check.of("broker 999 at 0 pace 2;road 8;wage 0;shower 0 to 15 from 0 to 999;deed 4 from 0 to 999 price 0;broker 1 at 1 pace 1;"
                + "deed 5 from 0 to 999 price 0;deed 6 from 0 to 999 price 0;deed 4 from 0 to 999 price 0");
        for (int i = 0; i < 4; i++) {
            x.buy(0, i);
        }
        Check.due("first day", x.minutes(96), 24);
        Check.due("second day", x.minutes(96), 24);
        Check.due("rows", x.count(10), 48);
        Check.due("third day", x.minutes(96), 24);
        Check.due("60 rows", x.count(10), 60);
        Check.due("the latest", x.log(0, 0), 192 + 30);
        Check.due("the last one kept", x.log(59, 0), 19);
        Check.due("its deed", x.log(59, 1), 1);
        Check.due("another", x.log(36, 1), 3);
        Check.due("none behind", x.log(60, 0), -1);
        Check.due("led(4)", x.led(4, false), 24);
        Check.due("led(5)", x.led(5, false), 18);
        Check.due("led(4) when", x.led(4, true), 192 + 18);
        x.minutes(14);
        Check.due("60 rows still", x.count(10), 60);
        x.undo();
        Check.due("the owner", x.deed(0, 4), 0);
        x.sell(0, 1);
        x.minutes(13);
        Check.due("no foot", x.count(10), 60);
        x.undo();
        x.undo();
        x.undo();
        Check.due("rows undone", x.count(10), 48);
        Check.due("the latest then", x.log(0, 0), 96 + 30);
        Check.due("the first then", x.log(47, 0), 13);
    }

    private static void logOfOneMore() {
        ArchEnds x = Check.of("broker 999 at 0 pace 2;wage 0;shower 0 to 15 from 0 to 999;deed 4 from 0 to 999 price 0");
        x.buy(0, 0);
        for (int i = 0; i < 10; i++) {
            x.minutes(96);
        }
        Check.due("60 rows", x.count(10), 60);
        Check.due("the first", x.log(59, 0), 13);
        x.minutes(14);
        Check.due("60 rows, not 61", x.count(10), 60);
        Check.due("the latest", x.log(0, 0), 973);
        Check.due("the last one kept", x.log(59, 0), 14);
    }

    private static void lastMinute() {
        ArchEnds x = Check.of("minute 999");
        for (int i = 0; i < 89; i++) {
            x.minutes(100);
        }
        Check.due("minute", x.count(5), 9899);
        x.minutes(100);
        Check.due("minute", x.count(5), 9999);
        x.minutes(100);
        Check.due("9999 at most", x.count(5), 9999);
    }

    private static void ahead() {
        ArchEnds x = Check.of("broker 50 at 0 pace 2;deed 4 from 3 to 40 price 20;wage 10;shower 0 to 15 from 10 to 99 chance 0");
        x.buy(0, 0);
        Check.due("ahead(0, 0)", x.ahead(0, 0), 30);
        Check.due("ahead(0, 13)", x.ahead(0, 13), 30);
        Check.due("ahead(0, 14)", x.ahead(0, 14), 40);
        Check.due("ahead(0, 200)", x.ahead(0, 200), 90);
        Check.dueThrow("ahead(0, 201)", NO_NUMBER, () -> x.ahead(0, 201));
        Check.dueThrow("ahead(0, -1)", NO_NUMBER, () -> x.ahead(0, -1));
        Check.dueThrow("ahead(1, 201)", NO_SUCH, () -> x.ahead(1, 201));
        Check.due("nothing stays", x.count(5) + x.shower(0, 6) + x.count(10), 0);
        Check.due("no draws", x.seed(1), 1);
        Check.due("by draws", x.minutes(20), 0);
        ArchEnds y = Check.of("broker 50 at 0 pace 2;deed 4 from 3 to 40 price 20;wage 10;shower 0 to 15 from 10 to 99");
        y.buy(0, 0);
        y.tell(0, 2);
        Check.due("told not to come", y.ahead(0, 50), 30);
    }

    private static String chance(int chance) {
        return "broker 50 at 0 pace 2;broker 7 at 0 pace 1;deed 4 from 3 to 40 price 20;wage 10;"
                + "shower 0 to 15 from 10 to 99 chance " + chance;
    }

    private static void trialAndSpan() {
        ArchEnds x = Check.of(chance(39));
        x.buy(0, 0);
        Check.due("trial(0)", x.trial(0, false), 0);
        Check.due("trial(0) purses", x.trial(0, true), 37);
        Check.due("trial(13)", x.trial(13, false), 0);
        Check.due("trial(14)", x.trial(14, false), 1);
        Check.due("trial(100)", x.trial(100, false), 6);
        Check.due("trial(100) purses", x.trial(100, true), 97);
        Check.due("nothing stays", x.count(5) + x.shower(0, 6) + x.count(10) + x.deed(0, 5), 0);
        Check.due("nor a draw", x.seed(5), 1);
        Check.due("trial by another seed", x.trial(100, false), 0);
        Check.due("acts", x.count(11), 1);
        Check.dueThrow("trial(101)", NO_NUMBER, () -> x.trial(101, true));
        Check.dueThrow("trial(-1)", NO_NUMBER, () -> x.trial(-1, false));
        Check.dueThrow("span(101)", NO_NUMBER, () -> x.span(101, true));
        Check.dueThrow("span(-1)", NO_NUMBER, () -> x.span(-1, false));
        Check.due("seed stays", x.seed(1), 5);
        spanOfEachSeed();
        int[][] spans = {{8, 0, 0}, {9, 0, 6}, {39, 0, 6}, {55, 0, 6}, {56, 6, 6}, {100, 6, 6}};
        for (int[] s : spans) {
            ArchEnds y = Check.of(chance(s[0]));
            y.buy(0, 0);
            y.seed(77);
            Check.due("the fewest by " + s[0], y.span(50, false), s[1]);
            Check.due("the most by " + s[0], y.span(50, true), s[2]);
            Check.due("seed stays", y.seed(1), 77);
            Check.due("span(0)", y.span(0, true), 0);
        }
    }

    /** Seeds 1 to 6 draw 38, 8, 47, 17, 55, 26 first and 58, 17, 7, 66, 57, 15 then. */
    private static void spanOfEachSeed() {
        String fair = "broker 50 at 0 pace 2;deed 4 from 3 to 40 price 20;";
        ArchEnds x = Check.of(fair + "shower 4 to 4 from 13 to 15 chance 27;shower 4 to 4 from 16 to 18 chance 16");
        x.buy(0, 0);
        Check.due("both come by seed 6 alone", x.span(50, true), 6);
        Check.due("none comes by seed 1", x.span(50, false), 0);
        ArchEnds y = Check.of(fair + "shower 4 to 4 from 13 to 15 chance 38;shower 4 to 4 from 16 to 18 chance 58");
        y.buy(0, 0);
        Check.due("none comes by seed 1 alone", y.span(50, false), 0);
    }

    private static void undone() {
        ArchEnds x = Check.of(FAIR);
        x.buy(0, 0);
        x.sell(0, 1);
        x.insure(0);
        x.go(1, 6);
        x.tell(0, 1);
        x.road(9);
        x.minutes(20);
        Check.due("acts", x.count(11), 7);
        Check.due("purse", x.broker(1, 0), 90);
        x.seed(99);
        Check.due("undo minutes", x.undo(), true);
        Check.due("minute", x.count(5), 0);
        Check.due("purse", x.broker(1, 0), 30);
        Check.due("rows", x.count(10), 0);
        Check.due("wet", x.deed(0, 5), 0);
        Check.due("seed", x.seed(1), 1);
        Check.due("undo road", x.undo(), true);
        Check.due("road", x.count(6), 8);
        Check.due("undo tell", x.undo(), true);
        Check.due("state", x.shower(0, 6), 0);
        Check.due("undo go", x.undo(), true);
        Check.due("acre", x.broker(1, 1), 5);
        Check.due("undo insure", x.undo(), true);
        Check.due("insured", x.deed(0, 6), 0);
        Check.due("purse", x.broker(1, 0), 40);
        Check.due("undo sell", x.undo(), true);
        Check.due("owner", x.deed(0, 4), 0);
        Check.due("purse", x.broker(0, 0), 30);
        Check.due("undo buy", x.undo(), true);
        Check.due("owner", x.deed(0, 4), -1);
        Check.due("purses", x.count(8), 110);
        Check.due("no more", x.undo(), false);
        for (int i = 0; i <= 13; i++) {
            x.road(i);
        }
        Check.due("12 are remembered", x.count(11), 12);
        for (int i = 12; i >= 1; i--) {
            Check.due("undo", x.undo(), true);
            Check.due("road", x.count(6), i);
        }
        Check.due("no more", x.undo(), false);
        x.road(3);
        x.seed(44);
        x.undo();
        Check.due("all is as ahead of it", x.seed(1), 1);
    }

    private static void forgotten() {
        ArchEnds x = Check.of(FAIR);
        x.road(1);
        Check.tape(x, "road");
        Check.dueThrow("a wrong text", NO_NUMBER, () -> x.county());
        Check.tape(x, "cost");
        Check.dueThrow("a wrong law", NO_NUMBER, () -> x.law());
        Check.due("a wrong text lets acts be", x.count(11), 1);
        Check.tape(x, "wage 1");
        x.undo();
        Check.due("the tape is not undone", x.county(), 2);
        x.road(2);
        Check.county(x, "");
        Check.due("a text of the county", x.count(11), 0);
        Check.due("undo", x.undo(), false);
        x.road(3);
        Check.law(x, "");
        Check.due("a law", x.undo(), false);
        x.road(4);
        Check.due("no image", x.back(), false);
        Check.due("acts stay", x.count(11), 1);
        x.image();
        Check.due("an image lets acts be", x.count(11), 1);
        x.road(5);
        x.back();
        Check.due("going back", x.undo(), false);
        Check.due("road", x.count(6), 4);
    }

    private static void image() {
        ArchEnds x = Check.of(FAIR);
        x.buy(0, 0);
        x.minutes(15);
        x.image();
        Check.law(x, "cost 9");
        Check.county(x, "deed 1 from 1 to 1 price 1;wage 77");
        x.minutes(20);
        x.seed(123);
        Check.tape(x, "county");
        Check.dueThrow("a wrong text", NO_NUMBER, () -> x.county());
        x.feed(1, 2, 3, 4, 5);
        Check.due("back()", x.back(), true);
        int[] counts = {1, 2, 2, 1, -1, 15, 8, 10, 110, 1, 2, 0};
        for (int what = 0; what < counts.length; what++) {
            Check.due("count(" + what + ")", x.count(what), counts[what]);
        }
        Check.due("fault stays", x.fault(), 0);
        Check.due("the tape stays", x.end(20), true);
        Check.due("seed", x.seed(1), 1103527590);
        x.road(3);
        Check.due("back() again", x.back(), true);
        Check.due("road", x.count(6), 8);
        x.road(2);
        x.image();
        x.road(5);
        x.undo();
        x.undo();
        Check.due("undone ahead of the image", x.count(6), 8);
        x.back();
        Check.due("the latest image", x.count(6), 2);
    }
}
