import java.util.NoSuchElementException;

/** Promises 1 to 6 and 54: a new object, the tape, the county's texts, the law's text and the first wrong byte. */
final class TextsTest {
    private static final Class<IllegalArgumentException> WRONG = IllegalArgumentException.class;

    public static void main(String[] args) {
        newObject();
        tape();
        countyLines();
        countyLimits();
        textsLimit();
        countyFaults();
        lawFaults();
        lawLimits();
        lawConditions();
        lawOfBringsAndWalks();
        Check.finish();
    }

    private static void newObject() {
        ArchEnds x = new ArchEnds();
        int[] counts = {0, 0, 0, 0, -1, 0, 8, 5, 0, 0, 0, 0, -1};
        for (int what = 0; what < counts.length; what++) {
            Check.due("count(" + what + ") of a new object", x.count(what), counts[what]);
        }
        Check.due("count(-1)", x.count(-1), -1);
        Check.due("fault()", x.fault(), -1);
        Check.due("undo()", x.undo(), false);
        Check.due("back()", x.back(), false);
        Check.due("seed", x.seed(5), 1);
        Check.due("dry", x.dry(), 0);
        Check.due("rich", x.rich(), -1);
        Check.due("rush", x.rush(0), -1);
        Check.due("clash", x.clash(), 0);
        Check.due("best", x.best(0, 96), 0);
        Check.due("send(NONE) without brokers", x.send(-1), 0);
        Check.due("seen without showers", x.seen(0, false), 1);
        Check.dueThrow("shower(0, 0)", IndexOutOfBoundsException.class, () -> x.shower(0, 0));
        Check.dueThrow("broker(0, 0)", IndexOutOfBoundsException.class, () -> x.broker(0, 0));
        Check.dueThrow("deed(0, 0)", IndexOutOfBoundsException.class, () -> x.deed(0, 0));
        Check.dueThrow("log(0, 4)", NoSuchElementException.class, () -> x.log(0, 4));
    }

    private static void tape() {
        ArchEnds x = new ArchEnds();
        for (int n = 20; n <= 400; n += 20) {
            Check.due("feed to " + n, x.feed(0, 0, 0, 0, 0), n);
        }
        Check.due("feed beyond 400", x.feed(0, 0, 0, 0, 0), -1);
        Check.due("end(401)", x.end(401), false);
        Check.due("end(-1)", x.end(-1), false);
        Check.due("end(400)", x.end(400), true);
        Check.due("end(381)", x.end(381), true);
        Check.due("feed to 401", x.feed(0, 0, 0, 0, 0), -1);
        Check.due("end(382) behind none", x.end(382), false);
        Check.due("end(380)", x.end(380), true);
        Check.due("feed to 400 again", x.feed(0, 0, 0, 0, 0), 400);
        Check.due("end(0)", x.end(0), true);
        Check.due("feed(\"road 3;wage 7;minute\")",
                x.feed(0x726F6164, 0x20333B77, 0x61676520, 0x373B6D69, 0x6E757465), 20);
        Check.due("end(13)", x.end(13), true);
        Check.due("county()", x.county(), 1);
        Check.due("road", x.count(6), 3);
        Check.due("wage", x.count(7), 7);
        Check.due("the tape is used up", x.end(1), false);
        x.feed(-1, -1, -1, -1, -1);
        Check.dueThrow("bytes 255", WRONG, () -> x.county());
        Check.due("fault of bytes 255", x.fault(), 0);
        Check.due("the tape is used up by a wrong text", x.end(1), false);
    }

    private static void countyLines() {
        ArchEnds x = new ArchEnds();
        Check.due("county", Check.county(x, " shower 3 to 7 from 10 to 999 west 2 chance 0 ; shower 0 to 0 from 0 to 0"
                + ";shower 15 to 15 from 999 to 999 east 2;shower 1 to 2 from 3 to 4 chance 100;shower1to2from3to4west0"), 1);
        int[][] showers = {{3, 7, 10, 999, 0, 0, 0}, {0, 0, 0, 0, 2, 100, 0}, {15, 15, 999, 999, 4, 100, 0},
            {1, 2, 3, 4, 2, 100, 0}, {1, 2, 3, 4, 2, 100, 0}};
        for (int i = 0; i < showers.length; i++) {
            for (int what = 0; what < 7; what++) {
                Check.due("shower(" + i + ", " + what + ")", x.shower(i, what), showers[i][what]);
            }
        }
        Check.due("county", Check.county(x, "broker 999 at 15 pace 4;broker 0 at 0 pace 1;deed 15 from 999 to 999 price 999;"
                + "deed 0 from 0 to 0 price 0;deed 007 from 08 to 009 price 010;road 0;wage 99;minute 999"), 2);
        int[][] brokers = {{999, 15, 4, 4, 0, 999}, {0, 0, 1, 1, 0, 0}};
        for (int i = 0; i < brokers.length; i++) {
            for (int what = 0; what < 6; what++) {
                Check.due("broker(" + i + ", " + what + ")", x.broker(i, what), brokers[i][what]);
            }
        }
        int[][] deeds = {{15, 999, 999, 999, -1, 0, 0}, {0, 0, 0, 0, -1, 0, 0}, {7, 8, 9, 10, -1, 0, 0}};
        for (int i = 0; i < deeds.length; i++) {
            for (int what = 0; what < 7; what++) {
                Check.due("deed(" + i + ", " + what + ")", x.deed(i, what), deeds[i][what]);
            }
        }
        int[] counts = {5, 2, 3, 2, -1, 999, 0, 99, 999, 0, 0, 0};
        for (int what = 0; what < counts.length; what++) {
            Check.due("count(" + what + ")", x.count(what), counts[what]);
        }
        Check.dueThrow("shower(5, 0)", IndexOutOfBoundsException.class, () -> x.shower(5, 0));
        Check.dueThrow("shower(-1, 9)", IndexOutOfBoundsException.class, () -> x.shower(-1, 9));
        Check.dueThrow("shower(0, 7)", NoSuchElementException.class, () -> x.shower(0, 7));
        Check.dueThrow("shower(0, -1)", NoSuchElementException.class, () -> x.shower(0, -1));
        Check.dueThrow("broker(2, 6)", IndexOutOfBoundsException.class, () -> x.broker(2, 6));
        Check.dueThrow("broker(0, 6)", NoSuchElementException.class, () -> x.broker(0, 6));
        Check.dueThrow("deed(3, 7)", IndexOutOfBoundsException.class, () -> x.deed(3, 7));
        Check.dueThrow("deed(0, 7)", NoSuchElementException.class, () -> x.deed(0, 7));
        Check.due("a text of blanks", Check.county(x, "    "), 3);
        Check.county(x, "road 15;wage 0;minute 0");
        Check.due("road 15", x.count(6), 15);
        Check.due("an empty text", Check.county(x, ""), 5);
    }

    private static void countyLimits() {
        String shower = "shower 0 to 5 from 5 to 5;";
        String deed = "deed 0 from 5 to 5 price 1;";
        ArchEnds x = Check.of(shower.repeat(4) + "road 1");
        countyFault(x, shower.repeat(3) + "road 2", 52);
        Check.due("showers behind a wrong text", x.count(0), 4);
        Check.due("road behind a wrong text", x.count(6), 1);
        Check.due("texts behind a wrong text", x.count(3), 1);
        Check.county(x, shower.repeat(2) + "road 3");
        Check.due("six showers", x.count(0), 6);
        countyFault(x, "road 4;  shower", 9);
        Check.county(x, deed.repeat(8) + "road 5");
        countyFault(x, "deed 77", 0);
        Check.county(x, "broker 1 at 1 pace 1;".repeat(5) + "road 6");
        countyFault(x, "broker", 0);
        Check.county(x, "road 7;".repeat(13) + "road 9");
        Check.due("14 lines", x.count(6), 9);
        countyFault(x, "road 7;".repeat(14) + "road 9", 98);
        countyFault(x, "road 7;".repeat(14) + " ", 99);
        countyFault(x, "road 7;".repeat(14) + " ;", 99);
    }

    private static void textsLimit() {
        ArchEnds x = new ArchEnds();
        for (int i = 1; i <= 12; i++) {
            Check.due("text " + i, Check.county(x, "road " + i), i);
        }
        Check.tape(x, "road");
        Check.dueThrow("a 13th text that is wrong", WRONG, () -> x.county());
        Check.due("fault", x.fault(), 4);
        Check.tape(x, "road 3");
        Check.dueThrow("a 13th text", UnsupportedOperationException.class, () -> x.county());
        Check.due("the tape is used up", x.end(1), false);
        Check.due("fault of a right text", x.fault(), -1);
        Check.due("road", x.count(6), 12);
        Check.due("texts", x.count(3), 12);
        Check.due("a law is no text of the county", Check.law(x, "cost 1"), 1);
    }

    private static void countyFault(ArchEnds x, String text, int fault) {
        Check.tape(x, text);
        Check.dueThrow("county '" + text + "'", WRONG, () -> x.county());
        Check.due("fault of '" + text + "'", x.fault(), fault);
    }

    private static void countyFaults() {
        ArchEnds x = new ArchEnds();
        Object[][] faults = {{";", 0}, {" ;", 1}, {"Road 1", 0}, {"roads 1", 0}, {"road", 4}, {"road  ", 6}, {"road x", 5},
            {"road 0001", 5}, {"road 1 2", 7}, {"road 1 x", 7}, {"road 1x", 6}, {"road 1; ", 8}, {"road 1;;", 7},
            {"road 1,", 6}, {"road\t1", 4}, {"road 1\n", 6}, {"road -1", 5}, {"wage 99;wage 100", 13}, {"1", 0},
            {"shower 0", 8}, {"shower 0 at", 9}, {"shower 0 to 16", 12}, {"shower 0 to 15 to", 15},
            {"shower 0 to 1 from 1000 to 5", 19}, {"shower 0 to 1 from 9 to", 23}, {"shower 0 to 1 from 9 to 8", 24},
            {"shower 0 to 1 from 9 to 9 north 1", 26}, {"shower 0 to 1 from 9 to 9 east", 30},
            {"shower 0 to 1 from 9 to 9 west 3", 31}, {"shower 0 to 1 from 9 to 9 east 1 west 1", 33},
            {"shower 0 to 1 from 9 to 9 chance", 32}, {"shower 0 to 1 from 9 to 9 chance 5 chance 5", 35},
            {"broker 1 pace 1", 9}, {"broker 1 at 1", 13}, {"broker 1 at 1 pace 0", 19}, {"broker at", 7},
            {"deed 1 to", 7}, {"deed 1 from 5 to 3", 17}, {"deed 1 from 5 to 5 pric 5", 19}, {"deed 1 from 5 to 5", 18},
            {"minute 9999", 7}, {"cost 5", 0}, {"road(1)", 4}, {"road 1 ; wage", 13}, {"r oad 1", 0}, {"road 1 6", 7},
            {"roadz 1", 0}, {"aroad 1", 0}, {"road{1", 4}, {"road`1", 4}, {"road /", 5}, {"road :", 5}, {"road 1:", 6},
            {"shower 16 to 16", 7}, {"shower 0 to 1 from 9 to 9 chance 101", 33}, {"shower 0 to 1 from 9 to 1000", 24},
            {"broker 1000 at 1", 7}, {"broker 1 at 16 pace 1", 12}, {"broker 1 at 1 pace 5", 19}, {"deed 16 from 1", 5},
            {"deed 1 from 1000", 12}, {"deed 1 from 1 to 1000", 17}, {"deed 1 from 1 to 1 price 1000", 25}, {"road 16", 5},
            {";".repeat(400), 0}, {"road 1;".repeat(14) + ";".repeat(302), 98}, {" ".repeat(399) + "x", 399}};
        for (Object[] f : faults) {
            countyFault(new ArchEnds(), (String) f[0], (Integer) f[1]);
        }
        countyFault(x, "shower 0 to 1 from 9 to 9;broker 1 at 1 pace 1;deed 1 from 5 to 5 price 5;minute 9;road 1;wage 9;", 97);
        Check.due("nothing stays", x.count(0) + x.count(1) + x.count(2) + x.count(3) + x.count(5), 0);
        Check.due("road", x.count(6), 8);
        Check.due("wage", x.count(7), 5);
        Check.county(x, "road 5");
        Check.due("fault of a right text", x.fault(), -1);
    }

    private static void lawFault(ArchEnds x, String text, int fault) {
        Check.tape(x, text);
        Check.dueThrow("law '" + text + "'", WRONG, () -> x.law());
        Check.due("fault of '" + text + "'", x.fault(), fault);
        Check.due("the tape is used up", x.end(1), false);
    }

    private static void lawFaults() {
        ArchEnds x = new ArchEnds();
        Object[][] faults = {{";", 0}, {"cost 5;", 7}, {"cost 5; ", 8}, {"cost 5 5", 7}, {"cost 5 when wet", 7}, {"cost if", 5},
            {"cost 100 if wet", 5}, {"road 5", 0}, {"cost 5 if", 9}, {"cost 5 if ;", 10}, {"cost 5 if and", 10},
            {"cost 5 if wet wet", 14}, {"cost 5 if wet <", 14}, {"cost 5 if wet and", 17}, {"cost 5 if wet or or", 17},
            {"cost 5 if acre", 14}, {"cost 5 if acre;", 14}, {"cost 5 if acre <", 16}, {"cost 5 if acre < wet", 17},
            {"cost 5 if acre + < 5", 17}, {"cost 5 if acre + 1000 < 5", 17}, {"cost 5 if acre < 5 > 4", 19},
            {"cost 5 if (acre) < 5", 15}, {"cost 5 if (wet", 14}, {"cost 5 if (wet;", 14}, {"cost 5 if wet)", 13},
            {"cost 5 if ()", 11}, {"cost 5 if not", 13}, {"cost 5 if not and", 14}, {"cost 5 if not acre", 18},
            {"cost 5 if acre = 5", 15}, {"cost 5 if acre <> 5", 16}, {"cost 5 if place < 5", 10}, {"cost 5 if notwet", 10},
            {"cost 5 if acre < 5 and owned or sun > ", 38}, {"cost 5 if wet;bring 3;slow x", 27},
            {"cost 5 if ((((((wet))))))) ", 25}, {"cost 5 if (((((((wet)))))))", 16},
            {"cost 5 if not not not not not not not wet", 34}, {"cost 5 if not(not(not(not wet)))", 22},
            {"cost 5 if (wet and (wet and (wet and (wet and (wet and (wet and not wet))))))", 64}};
        for (Object[] f : faults) {
            lawFault(x, (String) f[0], (Integer) f[1]);
        }
        Check.due("no law", x.count(4), -1);
    }

    private static void lawLimits() {
        ArchEnds x = new ArchEnds();
        Check.due("an empty law", Check.law(x, ""), 0);
        Check.due("count(4)", x.count(4), 0);
        Check.due("a law of blanks", Check.law(x, "   "), 0);
        Check.due("12 lines", Check.law(x, "cost 0;bring 99;slow 1;".repeat(3) + "cost 1;cost 2;slow 3 if wet"), 12);
        lawFault(x, "cost 1;".repeat(12) + "cost 1", 84);
        Check.due("the law that was stays", x.count(4), 12);
        Check.due("fault", x.fault(), 84);
        Check.due("six deep", Check.law(x, "cost 5 if not not not not not not wet;cost 5 if ((((((wet))))))"), 2);
        Check.due("not deep by and", Check.law(x, "cost 5 if not wet and not wet and (wet) and (wet) and not wet "
                + "and not wet and not wet and not wet"), 1);
        Check.due("a law in place of the one before", x.count(4), 1);
        Check.due("fault of a right text", x.fault(), -1);
        Check.due("a sum of 399 bytes", Check.law(x, "cost 1 if 1" + "+1".repeat(193) + ">2"), 1);
        lawFault(x, "cost 1 if 1" + "+1".repeat(193) + ">+2", 398);
    }

    private static void lawConditions() {
        ArchEnds x = Check.of("broker 500 at 3 pace 4;broker 500 at 5 pace 4;deed 4 from 0 to 50 price 10;minute 6;"
                + "shower 4 to 4 from 0 to 10;shower 4 to 6 from 5 to 10;shower 0 to 15 from 0 to 99");
        x.tell(2, 2);
        String[] held = {"acre > 3", "acre < 5", "sun > 5", "sun<7", "reach > 5", "reach < 7", "hour < 7", "hour>5", "many > 1",
            "many < 3", "who < 1", "wet", "not owned", "not not wet", "not owned and wet", "wet or owned and owned",
            "owned or wet", "owned and owned or wet", "(wet)", "1 + 2 + 3 > 5", "acre + sun > 9", "acre + sun < 11", "999 > 998",
            "not (owned or owned)", "not owned and not owned", "(wet or owned) and (owned or wet)", "not acre > 4",
            "acre + acre + acre > 5 + 6", "(((not owned)))"};
        for (String c : held) {
            Check.law(x, "cost 1 if " + c);
            Check.due("'" + c + "' holds", x.costs(0, 0), 11);
            Check.law(x, "cost 7 if not (" + c + ")");
            Check.due("not '" + c + "' does not", x.costs(0, 0), 10);
        }
        String[] fail = {"acre > 4", "acre < 4", "sun < 6", "sun > 6", "reach > 6", "hour < 6", "many > 2", "many < 2", "who > 0",
            "owned", "not wet", "(wet or owned) and owned", "not wet or owned", "not owned and owned", "1 + 2 + 3 > 6"};
        for (String c : fail) {
            Check.law(x, "cost 1 if " + c);
            Check.due("'" + c + "' does not hold", x.costs(0, 0), 10);
        }
        Check.law(x, "cost 1 if who > 0;cost 2;bring 50;slow 9;cost 4 if wet;cost 90 if not wet");
        Check.due("costs of broker 0", x.costs(0, 0), 16);
        Check.due("costs of broker 1", x.costs(1, 0), 17);
        Check.law(x, "cost 1 if owned");
        Check.due("bought when not owned", x.buy(0, 0), 490);
        Check.due("owned then", x.costs(1, 0), 11);
        Check.county(x, "minute 51");
        Check.due("not owned in another minute", x.costs(1, 0), 10);
        Check.law(x, "cost 1 if reach > 0;cost 2 if reach < 1;cost 4 if sun > 44;cost 8 if wet");
        Check.due("no reach counts 0", x.costs(1, 0), 16);
        Check.county(x, "minute 102");
        Check.law(x, "cost 1 if hour < 7 and hour > 5 and sun > 5 and sun < 7");
        Check.due("the hour is of a day of 96", x.costs(1, 0), 11);
    }

    private static void lawOfBringsAndWalks() {
        ArchEnds x = Check.of("broker 500 at 3 pace 4;broker 500 at 12 pace 2;deed 4 from 0 to 50 price 10;wage 7;"
                + "shower 3 to 4 from 10 to 20");
        Check.law(x, "bring 10;bring 20 if wet;bring 40 if who > 0;cost 3;slow 1;slow 2 if acre < 4;slow 99 if wet");
        Check.due("brings without a shower", x.brings(0, 0, 9), 17);
        Check.due("brings with a shower", x.brings(0, 0, 10), 37);
        Check.due("brings another", x.brings(1, 0, 10), 77);
        Check.due("brings in minute 9999", x.brings(0, 0, 9999), 17);
        Check.dueThrow("brings in minute 10000", WRONG, () -> x.brings(0, 0, 10000));
        Check.dueThrow("brings in minute -1", WRONG, () -> x.brings(0, 0, -1));
        Check.dueThrow("brings of no broker", IndexOutOfBoundsException.class, () -> x.brings(2, 0, -1));
        Check.dueThrow("brings of no deed", IndexOutOfBoundsException.class, () -> x.brings(0, 1, -1));
        Check.due("walks by 4 less 3", x.broker(0, 3), 1);
        Check.due("walks by 2 less 1", x.broker(1, 3), 1);
        Check.due("pace stays", x.broker(0, 2), 4);
        x.minutes(10);
        Check.due("walks by 0 at least", x.broker(0, 3), 0);
        Check.due("not wet there", x.broker(1, 3), 1);
    }
}
