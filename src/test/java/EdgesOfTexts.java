import java.util.NoSuchElementException;

/** Sentences about the tape, both texts and what they tell: promises 1 to 9 and 54, and the terms of the texts. */
final class EdgesOfTexts {
    private static final Class<IndexOutOfBoundsException> NO_SUCH = IndexOutOfBoundsException.class;
    private static final Class<IllegalArgumentException> WRONG = IllegalArgumentException.class;
    private static final Class<NoSuchElementException> NO_WHAT = NoSuchElementException.class;
    private static final String SHOWER = "shower 0 to 5 from 5 to 5;";
    private static final String BROKER = "broker 1 at 1 pace 1;";
    private static final String DEED = "deed 0 from 5 to 5 price 1;";
    private static final int[] NO_WHATS = {-1, Integer.MIN_VALUE, Integer.MAX_VALUE};

    private EdgesOfTexts() {
    }

    static void run(Sentences s) {
        tape(s);
        textsOfTheCounty(s);
        linesOfTheCounty(s);
        whatThereIs(s);
        law(s);
        conditions(s);
        things(s);
        firstWrongByte(s);
        whatIsTold(s);
        count(s);
    }

    static void countyFault(ArchEnds x, String text, int fault) {
        Check.tape(x, text);
        Check.dueThrow("county '" + text + "'", WRONG, () -> x.county());
        Check.due("fault of '" + text + "'", x.fault(), fault);
    }

    static void lawFault(ArchEnds x, String text, int fault) {
        Check.tape(x, text);
        Check.dueThrow("law '" + text + "'", WRONG, () -> x.law());
        Check.due("fault of '" + text + "'", x.fault(), fault);
    }

    private static void right(ArchEnds x, String text) {
        Check.tape(x, text);
        int before = x.count(3);
        int got = -9;
        try {
            got = x.county();
        } catch (IllegalArgumentException e) {
            got = -8;
        }
        Check.due("county '" + text + "'", got, before + 1);
        Check.due("fault of '" + text + "'", x.fault(), -1);
    }

    private static void counts(String when, ArchEnds x, int... want) {
        for (int what = 0; what < want.length; what++) {
            Check.due("count(" + what + ") " + when, x.count(what), want[what]);
        }
    }

    private static void feedBlanks(ArchEnds x, int times) {
        for (int i = 0; i < times; i++) {
            x.feed(0x20202020, 0x20202020, 0x20202020, 0x20202020, 0x20202020);
        }
    }

    // ---- promises 1 to 6

    private static void tape(Sentences s) {
        s.edge(1, "A county without SHOWERS.", () -> {
            ArchEnds x = new ArchEnds();
            counts("of a new object", x, 0, 0, 0, 0, -1, 0, 8, 5, 0, 0, 0, 0);
            Check.due("the tape is empty", x.end(1), false);
            Check.due("an empty tape ends at 0", x.end(0), true);
            Check.dueThrow("shower(0, 0)", NO_SUCH, () -> x.shower(0, 0));
            Check.due("wets", x.wets(8, 0), 0);
        });
        s.edge(2, "Twenty bytes come behind the TAPE, of each number the highest first: how many it has", () -> {
            ArchEnds x = new ArchEnds();
            Check.due("feed 'road 3;wage 7;minute'",
                    x.feed(0x726F6164, 0x20333B77, 0x61676520, 0x373B6D69, 0x6E757465), 20);
            Check.due("feed ' 41' and blanks", x.feed(0x20343120, 0x20202020, 0x20202020, 0x20202020, 0x20202020), 40);
            Check.due("county", x.county(), 1);
            counts("then", x, 0, 0, 0, 1, -1, 41, 3, 7);
            Check.due("a tape used up begins anew", x.feed(0, 0, 0, 0, 0), 20);
            x.feed(-1, 0, 0, 0, 0);
            Check.due("numbers below 0 are bytes, too", x.end(40), true);
        });
        s.edge(2, "NONE, and none come, if it would have more than 400.", () -> {
            ArchEnds x = new ArchEnds();
            feedBlanks(x, 18);
            Check.due("feed to 380", x.feed(0x726F6164, 0x20332020, 0x20202020, 0x20202020, 0x20202020), 380);
            Check.due("feed to 400", x.feed(0x20202020, 0x20202020, 0x20202020, 0x20202020, 0x20202020), 400);
            Check.due("feed beyond", x.feed(-1, -1, -1, -1, -1), -1);
            Check.due("none came", x.end(401), false);
            Check.due("400 are there", x.end(400), true);
            Check.due("what was there stays", x.county(), 1);
            Check.due("road", x.count(6), 3);
            feedBlanks(x, 20);
            x.end(381);
            Check.due("381 and 20", x.feed(-1, -1, -1, -1, -1), -1);
            Check.due("none came", x.end(382), false);
            Check.due("all blank still", x.county(), 2);
            feedBlanks(x, 20);
            x.end(380);
            Check.due("380 and 20", x.feed(0, 0, 0, 0, 0), 400);
        });
        s.edge(3, "The TAPE has its first n bytes alone: true", () -> {
            ArchEnds x = new ArchEnds();
            Check.tape(x, "road 12");
            Check.due("end(6)", x.end(6), true);
            Check.due("county", x.county(), 1);
            Check.due("road 1", x.count(6), 1);
            Check.tape(x, "road 12");
            Check.due("end of all it has", x.end(7), true);
            x.county();
            Check.due("road 12", x.count(6), 12);
            Check.tape(x, "road 13");
            Check.due("end(0)", x.end(0), true);
            Check.due("an empty text", x.county(), 3);
            Check.due("road 12 still", x.count(6), 12);
        });
        s.edge(3, "false, and nothing happens, if it has fewer, or n is below 0.", () -> {
            ArchEnds x = new ArchEnds();
            Check.due("end(1) of none", x.end(1), false);
            Check.tape(x, "road 12");
            for (int n : new int[] {8, 400, 401, Integer.MAX_VALUE, -1, -7, Integer.MIN_VALUE}) {
                Check.due("end(" + n + ")", x.end(n), false);
            }
            Check.due("county", x.county(), 1);
            Check.due("road 12", x.count(6), 12);
        });
        s.edge(4, "Uses the TAPE up: a text of THE COUNTY: how many there are.", () -> {
            ArchEnds x = new ArchEnds();
            Check.due("the first", Check.county(x, "road 1"), 1);
            Check.due("the tape is used up", x.end(1), false);
            Check.due("an empty one counts", x.county(), 2);
            Check.tape(x, "rod");
            Check.dueThrow("a wrong one", WRONG, () -> x.county());
            Check.due("the tape is used up by a wrong one", x.end(1), false);
            Check.due("a wrong one does not count", Check.county(x, "road 3"), 3);
            Check.due("count(3)", x.count(3), 3);
        });
        s.edge(5, "Uses the TAPE up: THE LAW: how many LINES. IllegalArgumentException: the text is wrong.", () -> {
            ArchEnds x = new ArchEnds();
            Check.due("two lines", Check.law(x, "cost 1;slow 1"), 2);
            Check.due("the tape is used up", x.end(1), false);
            Check.tape(x, "cost 1;slo");
            Check.dueThrow("a wrong one", WRONG, () -> x.law());
            Check.due("the tape is used up by a wrong one", x.end(1), false);
            Check.due("the law that was stays", x.count(4), 2);
            Check.due("a law from an empty tape", x.law(), 0);
            Check.due("it stands", x.count(4), 0);
        });
        s.edge(6, "The first wrong byte of the latest text that was read; NONE without one, and ahead of any.", () -> {
            ArchEnds x = new ArchEnds();
            Check.due("ahead of any", x.fault(), -1);
            countyFault(x, "road 1;wage x", 12);
            Check.due("it stays when asked", x.fault(), 12);
            Check.tape(x, "x");
            Check.due("what is fed is not read yet", x.fault(), 12);
            lawFault(x, "cos 5", 0);
            Check.due("an empty law", Check.law(x, ""), 0);
            Check.due("without one in an empty law", x.fault(), -1);
            countyFault(x, "road", 4);
            Check.due("a right text of the county", Check.county(x, "road 1"), 1);
            Check.due("without one", x.fault(), -1);
            lawFault(x, "cost", 4);
            Check.county(x, "");
            Check.due("without one in an empty text", x.fault(), -1);
        });
    }

    private static void textsOfTheCounty(Sentences s) {
        s.edge(Sentences.TERMS, "THE COUNTY is told in texts (at most 12, one behind another)", () -> {
            ArchEnds x = new ArchEnds();
            for (int i = 1; i <= 12; i++) {
                Check.due("text " + i, Check.county(x, i < 6 ? "broker " + i + " at 0 pace 1" : ""), i);
            }
            Check.due("each stands behind the one before", x.broker(0, 0) * 10 + x.broker(4, 0), 15);
            Check.tape(x, "road 3");
            Check.dueThrow("a 13th", UnsupportedOperationException.class, () -> x.county());
            counts("then", x, 0, 5, 0, 12, -1, 0, 8);
        });
        s.edge(4, "IllegalArgumentException: it is wrong; UnsupportedOperationException: there are 12.", () -> {
            ArchEnds x = new ArchEnds();
            Check.tape(x, "road");
            Check.dueThrow("a wrong one", WRONG, () -> x.county());
            for (int i = 1; i <= 11; i++) {
                Check.county(x, "");
            }
            Check.due("the 12th", Check.county(x, "road 4"), 12);
            countyFault(x, "road 5;", 7);
            Check.tape(x, "road 5");
            Check.dueThrow("a 13th", UnsupportedOperationException.class, () -> x.county());
            Check.due("the tape is used up", x.end(1), false);
            Check.dueThrow("a 13th that is empty", UnsupportedOperationException.class, () -> x.county());
            Check.due("nothing stays", x.count(6), 4);
            Check.due("12 still", x.count(3), 12);
            Check.due("a law is none of them", Check.law(x, "cost 1"), 1);
        });
        s.edge(Sentences.TERMS, "LINE { ; LINE }, at most 14", () -> {
            ArchEnds x = new ArchEnds();
            right(x, "road 7;".repeat(13) + "road 9");
            Check.due("the 14th", x.count(6), 9);
            countyFault(x, "road 7;".repeat(14) + "road 9", 98);
            countyFault(x, "road 7;".repeat(14) + "  wage 9", 100);
            Check.due("the 14th of before", x.count(6), 9);
            right(x, "road 1;".repeat(13) + "wage 9");
            Check.due("14 of each text", x.count(7), 9);
            right(x, "road 2");
            countyFault(x, "road 1;", 7);
            countyFault(x, ";road 1", 0);
            countyFault(x, "road 1;;road 1", 7);
            countyFault(x, "road 1 road 1", 7);
        });
    }

    private static void linesOfTheCounty(Sentences s) {
        s.edge(Sentences.TERMS, "shower N to N from N to N [ east N | west N ] [ chance N ] | broker N at N pace N "
                + "| deed N from N to N price N | road N | wage N | minute N.", () -> {
            ArchEnds x = new ArchEnds();
            right(x, "shower 0 to 1 from 2 to 3 east 1 chance 5;shower 0 to 1 from 2 to 3 west 1;"
                    + "shower 0 to 1 from 2 to 3 chance 6;shower 0 to 1 from 2 to 3");
            int[][] want = {{3, 5}, {1, 100}, {2, 6}, {2, 100}};
            for (int i = 0; i < want.length; i++) {
                Check.due("drift of " + i, x.shower(i, 4), want[i][0]);
                Check.due("chance of " + i, x.shower(i, 5), want[i][1]);
            }
            countyFault(x, "shower 0 to 1 from 2 to 3 east 1 west 1", 33);
            countyFault(x, "shower 0 to 1 from 2 to 3 chance 1 east 1", 35);
            countyFault(x, "shower 0 to 1 from 2 to 3 east", 30);
            countyFault(x, "shower 0 to 1 from 2 to 3 chance", 32);
            countyFault(x, "broker 1 at 1", 13);
            countyFault(x, "deed 1 from 1 to 1", 18);
            countyFault(x, "road 1 at 1", 7);
        });
        s.edge(Sentences.TERMS, "two ACRES, the second not below the first, then two MINUTES 0 to 999, likewise", () -> {
            ArchEnds x = new ArchEnds();
            right(x, "shower 0 to 0 from 0 to 0;shower 15 to 15 from 999 to 999;shower 0 to 15 from 0 to 999");
            countyFault(x, "shower 16 to 16 from 0 to 0", 7);
            countyFault(x, "shower 0 to 16 from 0 to 0", 12);
            countyFault(x, "shower 5 to 4 from 0 to 0", 12);
            countyFault(x, "shower 5 to 5 from 1000 to 0", 19);
            countyFault(x, "shower 5 to 5 from 0 to 1000", 24);
            countyFault(x, "shower 5 to 5 from 999 to 998", 26);
            right(x, "shower 5 to 5 from 9 to 9");
        });
        s.edge(Sentences.TERMS, "east, west: DRIFT 0 to 2, west below 0", () -> {
            ArchEnds x = new ArchEnds();
            String shower = "shower 0 to 1 from 2 to 3 ";
            right(x, shower + "east 0;" + shower + "east 2;" + shower + "west 0;" + shower + "west 2;" + shower + "west 1");
            int[] want = {2, 4, 2, 0, 1};
            for (int i = 0; i < want.length; i++) {
                Check.due("drift and 2 of " + i, x.shower(i, 4), want[i]);
            }
            countyFault(x, shower + "east 3", 31);
            countyFault(x, shower + "west 3", 31);
        });
        s.edge(Sentences.TERMS, "of broker: PURSE 0 to 999", () -> {
            ArchEnds x = new ArchEnds();
            right(x, "broker 0 at 0 pace 1;broker 999 at 15 pace 4");
            countyFault(x, "broker 1000 at 0 pace 1", 7);
            countyFault(x, "broker 0 at 16 pace 1", 12);
            counts("then", x, 0, 2, 0, 1, -1, 0, 8, 5, 999);
        });
        s.edge(Sentences.TERMS, "of deed: an ACRE, MINUTES likewise", () -> {
            ArchEnds x = new ArchEnds();
            right(x, "deed 0 from 0 to 0 price 1;deed 15 from 999 to 999 price 1;deed 7 from 0 to 999 price 1");
            countyFault(x, "deed 16 from 0 to 0 price 1", 5);
            countyFault(x, "deed 1 from 1000 to 0 price 1", 12);
            countyFault(x, "deed 1 from 5 to 4 price 1", 17);
            countyFault(x, "deed 1 from 5 to 1000 price 1", 17);
        });
        s.edge(Sentences.TERMS, "minute: 0 to 999.", () -> {
            ArchEnds x = new ArchEnds();
            right(x, "minute 999");
            Check.due("minute", x.count(5), 999);
            right(x, "minute 0");
            Check.due("minute", x.count(5), 0);
            countyFault(x, "minute 1000", 7);
        });
        s.edge(Sentences.TERMS, "Numbers are of 1 to 3 digits.", () -> {
            ArchEnds x = new ArchEnds();
            right(x, "minute 7;road 07;wage 007");
            counts("then", x, 0, 0, 0, 1, -1, 7, 7, 7);
            right(x, "minute 000");
            countyFault(x, "minute 0000", 7);
            countyFault(x, "minute 0001", 7);
            countyFault(x, "minute", 6);
            countyFault(x, "minute 1 2", 9);
        });
    }

    private static void whatThereIs(Sentences s) {
        s.edge(Sentences.TERMS, "SHOWERS (at most 6, numbered from 0 on)", () -> {
            ArchEnds x = Check.of(SHOWER.repeat(5) + "road 1");
            right(x, "shower 7 to 8 from 5 to 5");
            Check.due("the sixth", x.shower(5, 0), 7);
            countyFault(x, "road 2;shower 7 to 8 from 5 to 5", 7);
            Check.due("six", x.count(0), 6);
            Check.due("road", x.count(6), 1);
            Check.dueThrow("shower(6, 0)", NO_SUCH, () -> x.shower(6, 0));
            Check.dueThrow("shower(-1, 0)", NO_SUCH, () -> x.shower(-1, 0));
            ArchEnds y = new ArchEnds();
            countyFault(y, SHOWER.repeat(6) + "shower 7 to 8 from 5 to 5", 156);
            Check.due("none", y.count(0), 0);
        });
        s.edge(Sentences.TERMS, "DRIFT - 2 to 2, CHANCE 0 to 100 (100 at first)", () -> {
            ArchEnds x = new ArchEnds();
            String shower = "shower 0 to 1 from 2 to 3";
            right(x, shower + " west 2 chance 0;" + shower + " east 2 chance 100;" + shower);
            int[][] want = {{0, 0}, {4, 100}, {2, 100}};
            for (int i = 0; i < want.length; i++) {
                Check.due("drift and 2 of " + i, x.shower(i, 4), want[i][0]);
                Check.due("chance of " + i, x.shower(i, 5), want[i][1]);
            }
            countyFault(x, shower + " chance 101", 33);
        });
        s.edge(Sentences.TERMS, "a STATE: 0 not known, 1 it comes, 2 it does not (0 at first)", () -> {
            ArchEnds x = Check.of("shower 0 to 1 from 2 to 3 chance 0;shower 0 to 1 from 2 to 3");
            Check.due("at first", x.shower(0, 6) + x.shower(1, 6), 0);
            x.tell(0, 2);
            x.tell(1, 1);
            Check.due("told", x.shower(0, 6) * 10 + x.shower(1, 6), 21);
            Check.due("it does not come, it comes", x.wets(0, 2), 2);
        });
        s.edge(Sentences.TERMS, "BROKERS (at most 5, numbered from 0 on): PURSE 0 to 9999, an ACRE, PACE 1 to 4.", () -> {
            ArchEnds x = Check.of(BROKER.repeat(4) + "road 1");
            right(x, "broker 7 at 15 pace 4");
            Check.due("the fifth", x.broker(4, 0), 7);
            countyFault(x, "road 2; broker 7 at 8 pace 4", 8);
            Check.due("five", x.count(1), 5);
            Check.dueThrow("broker(5, 0)", NO_SUCH, () -> x.broker(5, 0));
            Check.dueThrow("broker(-1, 0)", NO_SUCH, () -> x.broker(-1, 0));
            ArchEnds y = new ArchEnds();
            countyFault(y, BROKER.repeat(5) + "broker 7 at 8 pace 4", 105);
            right(y, "broker 7 at 8 pace 1");
            countyFault(y, "broker 7 at 8 pace 0", 19);
            countyFault(y, "broker 7 at 8 pace 5", 19);
            Check.due("one", y.count(1), 1);
        });
        s.edge(Sentences.TERMS, "DEEDS (at most 8, numbered from 0 on)", () -> {
            ArchEnds x = Check.of(DEED.repeat(7) + "road 1");
            right(x, "deed 7 from 1 to 2 price 3");
            Check.due("the eighth", x.deed(7, 0), 7);
            countyFault(x, "road 2;deed 7 from 1 to 2 price 3", 7);
            Check.due("eight", x.count(2), 8);
            Check.dueThrow("deed(8, 0)", NO_SUCH, () -> x.deed(8, 0));
            Check.dueThrow("deed(-1, 0)", NO_SUCH, () -> x.deed(-1, 0));
            ArchEnds y = new ArchEnds();
            countyFault(y, DEED.repeat(8) + "deed 7 from 1 to 2 price 3", 216);
            Check.due("none", y.count(2), 0);
        });
        s.edge(Sentences.TERMS, "a PRICE 0 to 999, an OWNER (a BROKER) or none, INSURED or not", () -> {
            ArchEnds x = new ArchEnds();
            right(x, "deed 0 from 0 to 9 price 0;deed 0 from 0 to 9 price 999;" + "broker 10 at 0 pace 1");
            Check.due("prices", x.deed(0, 3) * 1000 + x.deed(1, 3), 999);
            Check.due("no owner", x.deed(0, 4), -1);
            Check.due("not insured", x.deed(0, 6), 0);
            x.buy(0, 0);
            x.insure(0);
            Check.due("an owner", x.deed(0, 4), 0);
            Check.due("insured", x.deed(0, 6), 1);
            Check.due("the other one", x.deed(1, 4), -1);
            countyFault(x, "deed 0 from 0 to 9 price 1000", 25);
        });
        s.edge(Sentences.TERMS, "ROAD: the ACRE from which all is judged (8 at first). WAGE 0 to 99 (5 at first).", () -> {
            ArchEnds x = Check.of("shower 2 to 2 from 1 to 6");
            Check.due("road", x.count(6), 8);
            Check.due("wage", x.count(7), 5);
            Check.due("judged from 8", x.stands(2, 1, 6), 6);
            right(x, "road 0;wage 0");
            Check.due("judged from 0", x.stands(2, 1, 6), 0);
            Check.due("road and wage", x.count(6) + x.count(7), 0);
            right(x, "road 15;wage 99");
            Check.due("road and wage", x.count(6) + x.count(7), 114);
            countyFault(x, "road 16", 5);
            countyFault(x, "wage 100", 5);
        });
    }

    // ---- the law

    private static void law(Sentences s) {
        s.edge(Sentences.TERMS, "THE LAW (a text, in place of the one before): LINE { ; LINE }, at most 12", () -> {
            ArchEnds x = Check.of("broker 0 at 0 pace 1;deed 0 from 0 to 9 price 0");
            Check.due("without one", x.count(4), -1);
            Check.due("12", Check.law(x, "cost 1;".repeat(11) + "cost 20"), 12);
            Check.due("all of them", x.costs(0, 0), 31);
            lawFault(x, "cost 1;".repeat(12) + "cost 1", 84);
            lawFault(x, "cost 1;".repeat(12) + "   slow 1", 87);
            lawFault(x, "cost 1;", 7);
            lawFault(x, ";cost 1", 0);
            lawFault(x, "cost 1;;cost 1", 7);
            lawFault(x, "cost 1 cost 1", 7);
            Check.due("the one before stays", x.costs(0, 0), 31);
            Check.due("another in its place", Check.law(x, "cost 2"), 1);
            Check.due("that one alone", x.costs(0, 0), 2);
            Check.law(x, "");
            Check.due("none of them", x.costs(0, 0), 0);
            for (int i = 0; i < 12; i++) {
                Check.law(x, "cost " + i);
            }
            Check.due("as many laws as one likes", x.costs(0, 0), 11);
        });
        s.edge(Sentences.TERMS, "cost N [ if C ] | bring N [ if C ] | slow N [ if C ].", () -> {
            ArchEnds x = Check.of("broker 0 at 0 pace 4;deed 0 from 0 to 9 price 0;wage 0");
            Check.law(x, "cost 1;bring 2;slow 3;cost 10 if owned;bring 20 if owned;slow 1 if owned;"
                    + "cost 40 if not owned;bring 40 if not owned;slow 0 if not owned");
            Check.due("costs", x.costs(0, 0), 41);
            Check.due("brings", x.brings(0, 0, 0), 42);
            Check.due("walks by", x.broker(0, 3), 1);
            lawFault(x, "cost 1 if", 9);
            lawFault(x, "cost", 4);
            lawFault(x, "cost if wet", 5);
            lawFault(x, "if wet", 0);
            lawFault(x, "road 1", 0);
        });
        s.edge(Sentences.TERMS, "All numbers are of 1 to 3 digits (N 0 to 99).", () -> {
            ArchEnds x = Check.of("broker 0 at 0 pace 4;deed 0 from 0 to 9 price 0");
            Check.due("0 and 99", Check.law(x, "cost 0;cost 99;cost 099;cost 01"), 4);
            Check.due("costs", x.costs(0, 0), 199);
            lawFault(x, "cost 100", 5);
            lawFault(x, "bring 100 if wet", 6);
            lawFault(x, "slow 0001", 5);
            Check.law(x, "cost 1 if 999 > 998;cost 2 if acre < 999;cost 4 if 000 < 001");
            Check.due("conditions have numbers to 999", x.costs(0, 0), 7);
            lawFault(x, "cost 1 if acre < 1000", 17);
            lawFault(x, "cost 1 if 0000 < acre", 10);
        });
    }

    private static void holds(ArchEnds x, String condition, boolean want) {
        Check.law(x, "cost 1 if " + condition);
        Check.due("'" + condition + "' holds", x.costs(0, 0), want ? 1 : 0);
    }

    private static void conditions(Sentences s) {
        s.edge(Sentences.TERMS, "C: ALL { or ALL }; ALL: ATOM { and ATOM }; ATOM: not ATOM | ( C ) | wet | owned "
                + "| SUM < SUM | SUM > SUM.", () -> {
            ArchEnds x = Check.of("broker 0 at 0 pace 4;deed 0 from 0 to 9 price 0;shower 0 to 0 from 0 to 9");
            holds(x, "wet or owned and owned", true);
            holds(x, "owned and owned or wet", true);
            holds(x, "(wet or owned) and owned", false);
            holds(x, "not owned and owned", false);
            holds(x, "not (owned and owned)", true);
            holds(x, "not wet or wet", true);
            holds(x, "not (wet or wet)", false);
            holds(x, "not not wet", true);
            holds(x, "owned and (wet or wet)", false);
            holds(x, "wet or (wet and owned)", true);
            holds(x, "wet and (owned or (owned or wet))", true);
            holds(x, "owned or owned or wet", true);
            holds(x, "wet and wet and owned", false);
            holds(x, "3 < 3", false);
            holds(x, "3 > 3", false);
            holds(x, "3 < 4", true);
            holds(x, "4 > 3", true);
            lawFault(x, "cost 1 if 3 < 4 < 5", 16);
            lawFault(x, "cost 1 if (3) < 4", 12);
            lawFault(x, "cost 1 if wet < 4", 14);
            lawFault(x, "cost 1 if acre < wet", 17);
            lawFault(x, "cost 1 if acre > owned", 17);
            lawFault(x, "cost 1 if acre + wet > 4", 17);
            lawFault(x, "cost 1 if ()", 11);
        });
        s.edge(Sentences.TERMS, "SUM: PART { + PART }; PART: NUMBER | acre | sun | reach | hour | many | who.", () -> {
            ArchEnds x = Check.of("broker 0 at 0 pace 4;deed 3 from 0 to 99 price 0;shower 3 to 3 from 0 to 99;minute 54");
            String all = "acre + sun + reach + hour + many + who";
            holds(x, all + " > 99", true);
            holds(x, all + " < 101", true);
            holds(x, all + " > 100", false);
            holds(x, all + " < 100", false);
            holds(x, "100 < " + all + " + 1", true);
            holds(x, "1+1+1>1+1", true);
            holds(x, "1" + "+1".repeat(190) + "<192", true);
            holds(x, "1" + "+1".repeat(190) + ">191", false);
            holds(x, "999" + "+999".repeat(95) + ">999", true);
            lawFault(x, "cost 1 if acre + > 5", 17);
            lawFault(x, "cost 1 if + acre > 5", 10);
            lawFault(x, "cost 1 if acre > 5 +", 20);
            lawFault(x, "cost 1 if wet + 1 > 5", 14);
        });
        s.edge(Sentences.TERMS, "reach: REACH, 0 without", () -> {
            ArchEnds x = Check.of("broker 0 at 0 pace 4;deed 0 from 0 to 9 price 0;wage 0");
            Check.law(x, "bring 1 if reach < 1;bring 10 if reach > 5;bring 20 if reach > 0;bring 40 if reach + 1 < 1");
            int[][] want = {{0, 1}, {1, 30}, {6, 30}, {7, 20}, {36, 20}, {37, 1}, {42, 1}, {43, 1}, {48, 1}, {95, 30}, {96, 1}};
            for (int[] w : want) {
                Check.due("brings in minute " + w[0], x.brings(0, 0, w[0]), w[1]);
            }
        });
        s.edge(Sentences.TERMS, "many: how many SHOWERS WET the ACRE then; wet: many is above 0", () -> {
            ArchEnds x = Check.of("broker 0 at 0 pace 4;deed 5 from 0 to 9 price 0;wage 0;shower 5 to 5 from 1 to 3;"
                    + "shower 4 to 5 from 2 to 3;shower 5 to 9 from 3 to 3;shower 0 to 4 from 0 to 9");
            Check.law(x, "bring 1 if many > 0;bring 2 if many > 1;bring 4 if many > 2;bring 8 if wet;bring 16 if many < 1");
            int[] want = {16, 9, 11, 15, 16};
            for (int m = 0; m < want.length; m++) {
                Check.due("brings in minute " + m, x.brings(0, 0, m), want[m]);
            }
            x.tell(0, 2);
            Check.due("one of state 2 wets nothing", x.brings(0, 0, 1), 16);
            Check.due("two are left", x.brings(0, 0, 3), 11);
        });
        s.edge(Sentences.TERMS, "owned: some DEED with an OWNER is for that ACRE and has that MINUTE", () -> {
            ArchEnds x = Check.of("broker 9 at 0 pace 4;deed 5 from 3 to 6 price 0;deed 5 from 0 to 99 price 0;"
                    + "deed 6 from 0 to 99 price 0;wage 0");
            Check.law(x, "bring 1 if owned");
            Check.due("no owner yet", x.brings(0, 0, 4), 0);
            x.buy(0, 0);
            int[][] want = {{2, 0}, {3, 1}, {6, 1}, {7, 0}};
            for (int[] w : want) {
                Check.due("brings in minute " + w[0], x.brings(0, 0, w[0]), w[1]);
                Check.due("another deed for that acre in minute " + w[0], x.brings(0, 1, w[0]), w[1]);
            }
            Check.due("another acre", x.brings(0, 2, 4), 0);
            Check.law(x, "bring 1 if not owned");
            Check.due("not owned in minute 2", x.brings(0, 0, 2), 1);
            Check.due("owned in minute 3", x.brings(0, 0, 3), 0);
            ArchEnds y = Check.of(DEED.repeat(7) + "deed 7 from 1 to 2 price 0;broker 9 at 0 pace 1;wage 0");
            Check.law(y, "bring 1 if owned");
            y.buy(0, 7);
            Check.due("the eighth of eight deeds", y.brings(0, 7, 2), 1);
            Check.due("none of eight", y.brings(0, 0, 5), 0);
        });
        s.edge(Sentences.TERMS, "who: the BROKER's number, 9 without one.", () -> {
            ArchEnds x = Check.of(BROKER.repeat(5) + "deed 0 from 0 to 9 price 0;wage 0");
            Check.law(x, "cost 1 if who < 1;cost 2 if who > 3;cost 4 if who > 1 and who < 3;cost 8 if who < 9;bring 7 if who > 3;"
                    + "slow 1 if who < 4");
            int[] want = {9, 8, 12, 8, 10};
            for (int b = 0; b < 5; b++) {
                Check.due("costs of " + b, x.costs(b, 0), want[b]);
                Check.due("brings " + b, x.brings(b, 0, 0), b == 4 ? 7 : 0);
                Check.due("walks of " + b, x.broker(b, 3), b == 4 ? 1 : 0);
            }
        });
        s.edge(Sentences.TERMS, "COSTS by: PRICE of a DEED and the sum of N of all cost LINES that hold (of its ACRE, "
                + "MINUTE as it is now and the BROKER who buys).", () -> {
            ArchEnds x = Check.of("broker 9 at 3 pace 4;deed 5 from 30 to 60 price 0;deed 15 from 3 to 6 price 999");
            Check.due("without a law", x.costs(0, 1), 999);
            Check.law(x, "cost 99;".repeat(11) + "cost 99 if acre > 14 and hour < 1");
            Check.due("all of them", x.costs(0, 1), 999 + 12 * 99);
            Check.due("of its acre", x.costs(0, 0), 11 * 99);
            x.minutes(1);
            Check.due("minute as it is now", x.costs(0, 1), 999 + 11 * 99);
        });
        s.edge(Sentences.TERMS, "BRINGS by: WAGE and the sum of N of all bring LINES (of a DEED's ACRE, the MINUTE and its OWNER).",
                () -> {
            ArchEnds x = Check.of("broker 9 at 3 pace 4;broker 9 at 3 pace 4;deed 4 from 13 to 14 price 0;wage 1;"
                    + "shower 4 to 4 from 0 to 99");
            x.buy(0, 0);
            Check.law(x, "bring 2 if acre > 3 and acre < 5;bring 4 if hour > 13;bring 8 if who > 0;cost 50;slow 50");
            Check.due("minute 13", x.minutes(14), 1);
            Check.due("brought", x.log(0, 3), 3);
            x.undo();
            x.minutes(13);
            Check.law(x, "bring 2 if acre > 3 and acre < 5;bring 4 if hour > 13;bring 8 if who > 0");
            x.sell(0, 1);
            x.minutes(2);
            Check.due("brought its owner", x.log(1, 3), 11);
            Check.due("brought in minute 14", x.log(0, 3), 15);
            Check.law(x, "");
            Check.due("an empty law: the wage", x.brings(0, 0, 13), 1);
        });
        s.edge(Sentences.TERMS, "WALKS by: PACE less the sum of N of all slow LINES (of the BROKER's ACRE now), 0 at least.", () -> {
            ArchEnds x = Check.of("broker 9 at 3 pace 4;broker 9 at 4 pace 1;shower 4 to 4 from 1 to 99");
            Check.due("without a law", x.broker(0, 3) * 10 + x.broker(1, 3), 41);
            Check.law(x, "slow 3 if acre < 4;slow 1 if wet");
            Check.due("less 3", x.broker(0, 3), 1);
            Check.due("not wet yet", x.broker(1, 3), 1);
            x.minutes(1);
            Check.due("wet now", x.broker(1, 3), 0);
            x.go(0, 4);
            Check.due("of its acre now", x.broker(0, 3), 3);
            Check.law(x, "slow 4");
            Check.due("just 0", x.broker(0, 3), 0);
            Check.law(x, "slow 5");
            Check.due("not below 0", x.broker(0, 3), 0);
            Check.law(x, "slow 99;".repeat(11) + "slow 99");
            Check.due("0 at least", x.broker(0, 3) + x.broker(1, 3), 0);
        });
    }

    // ---- what texts are made of

    private static void things(Sentences s) {
        s.edge(Sentences.TERMS, "Words are as long as a to z go on", () -> {
            ArchEnds x = new ArchEnds();
            right(x, "shower1to2from3to4west0chance9;road3;wage7");
            countyFault(x, "roads 1", 0);
            countyFault(x, "roadroad 1", 0);
            countyFault(x, "roadz1", 0);
            countyFault(x, "aroad 1", 0);
            countyFault(x, "road`1", 4);
            countyFault(x, "road{1", 4);
            countyFault(x, "roaD 1", 0);
            countyFault(x, "ro ad 1", 0);
            countyFault(x, "road 1wage 1", 6);
            lawFault(x, "cost 1 if notwet", 10);
            lawFault(x, "cost 1 ifwet", 7);
            Check.due("words end at other signs", Check.law(x, "cost1if(wet)and(not(owned))or 1<acre+2"), 1);
        });
        s.edge(Sentences.TERMS, "between all there may be blanks (32), also ahead and behind.", () -> {
            ArchEnds x = new ArchEnds();
            right(x, "   road   3  ;   wage  7   ");
            right(x, "road3;wage7");
            Check.due("a law", Check.law(x, "  cost  1  if  (  acre  +  1  <  5  )  "), 1);
            Check.due("a law without", Check.law(x, "cost1if(acre+1<5)"), 1);
            countyFault(x, "road\t3", 4);
            countyFault(x, "road 3\n", 6);
            countyFault(x, "\0road 3", 0);
            countyFault(x, "road 3" + (char) 160, 6);
            countyFault(x, "road 3!", 6);
            countyFault(x, "road" + (char) 31 + "3", 4);
            countyFault(x, "road 1 2", 7);
            right(x, " ".repeat(394) + "road 4");
            Check.due("road", x.count(6), 4);
        });
        s.edge(Sentences.TERMS, "A text that is empty, or blanks alone, has no LINE.", () -> {
            ArchEnds x = Check.of("road 3");
            right(x, "");
            right(x, " ");
            right(x, " ".repeat(400));
            counts("then", x, 0, 0, 0, 4, -1, 0, 3, 5);
            Check.due("an empty law", Check.law(x, ""), 0);
            Check.due("lines of it", x.count(4), 0);
            Check.law(x, "cost 1");
            Check.due("a law of blanks", Check.law(x, "  "), 0);
            Check.due("lines of it", x.count(4), 0);
            Check.due("a law of 400 blanks", Check.law(x, " ".repeat(400)), 0);
        });
        s.edge(Sentences.TERMS, "( and not within one another at most 6 deep.", () -> {
            ArchEnds x = Check.of("broker 0 at 0 pace 4;deed 0 from 0 to 9 price 0;shower 0 to 0 from 0 to 9");
            holds(x, "((((((wet))))))", true);
            holds(x, "not not not not not not wet", true);
            holds(x, "not(not(not(owned)))", true);
            holds(x, "not not not not not wet", false);
            holds(x, "(not(not(not owned)))", true);
            lawFault(x, "cost 1 if (((((((wet)))))))", 16);
            lawFault(x, "cost 1 if not not not not not not not wet", 34);
            lawFault(x, "cost 1 if not(not(not(not wet)))", 22);
            lawFault(x, "cost 1 if ((((((not wet))))))", 16);
            lawFault(x, "cost 1 if not not not not not not (wet)", 34);
            holds(x, "(wet) and (wet) and (wet) and (wet) and (wet) and (wet) and (wet)", true);
            holds(x, "not owned and not owned and not owned and not owned and not owned and not owned and not owned", true);
            holds(x, "((((((wet)))))) and ((((((wet)))))) or not owned", true);
        });
    }

    private static void firstWrongByte(Sentences s) {
        s.edge(Sentences.TERMS, "The first wrong byte: the begin of the first thing that cannot stand there", () -> {
            ArchEnds x = new ArchEnds();
            countyFault(x, "road 1;wage 2;  to 5;rod", 16);
            countyFault(x, "shower 0 to 1 from from", 19);
            countyFault(x, "shower 0 to 1 to 5", 14);
            countyFault(x, "+", 0);
            countyFault(x, "road +1", 5);
            countyFault(x, "road 1 ) wage", 7);
            countyFault(x, "cost 5", 0);
            lawFault(x, "cost 1 if wet;bring 1 if owned or;slow", 33);
            lawFault(x, "cost 1 if wet and ) or", 18);
            lawFault(x, "cost 1 if wet)", 13);
            lawFault(x, "cost 1 if (wet;cost 1", 14);
            lawFault(x, "cost 1 if acre = 5", 15);
            lawFault(x, "shower 1 to 2", 0);
            countyFault(x, ";".repeat(400), 0);
            lawFault(x, "cost 1 if " + "(".repeat(390), 16);
        });
        s.edge(Sentences.TERMS, "a number of more digits, or out of its bounds", () -> {
            ArchEnds x = new ArchEnds();
            countyFault(x, "wage 99;wage 100", 13);
            countyFault(x, "wage 99;wage 0099", 13);
            countyFault(x, "wage 12345678901234567890", 5);
            countyFault(x, "road 15;road 16;road", 13);
            countyFault(x, "0000", 0);
            countyFault(x, "road 1 0000", 7);
            lawFault(x, "cost 1 if 4294967297 > 0", 10);
            lawFault(x, "cost 1;cost 100;cos", 12);
        });
        s.edge(Sentences.TERMS, "a word that is none", () -> {
            ArchEnds x = new ArchEnds();
            countyFault(x, "road 1;hill 5", 7);
            countyFault(x, "shower 0 to 1 from 9 to 9 north 1", 26);
            countyFault(x, "broker 1 in 1", 9);
            lawFault(x, "cost 1 if place < 5", 10);
            lawFault(x, "cost 1 when wet", 7);
            lawFault(x, "cost 1 if wet xor wet", 14);
        });
        s.edge(Sentences.TERMS, "the ( or not that is a 7th one deep", () -> {
            ArchEnds x = new ArchEnds();
            lawFault(x, "cost 1;cost 1 if ( ( ( ( ( ( (", 29);
            lawFault(x, "cost 1 if (wet and (wet and (wet and (wet and (wet and (wet and not wet))))))", 64);
            lawFault(x, "cost 1 if (wet or (wet or (wet or (wet or (wet or (wet or (wet)))))))", 58);
            lawFault(x, "cost 1 if not(not(not not(not", 25);
        });
        s.edge(Sentences.TERMS, "of a LINE, a SHOWER, a BROKER, a DEED too many, the first word", () -> {
            ArchEnds x = Check.of(SHOWER.repeat(6) + "road 1", BROKER.repeat(5) + DEED.repeat(8) + "road 2");
            countyFault(x, "road 3;  shower", 9);
            countyFault(x, "road 3;broker 9999", 7);
            countyFault(x, " deed", 1);
            countyFault(x, "road 3;".repeat(14) + " road 99", 99);
            countyFault(x, "road 3;".repeat(14) + "xyz", 98);
            lawFault(x, "cost 1;".repeat(12) + " slow 100", 85);
            counts("then", x, 6, 5, 8, 2, -1, 0, 2);
        });
        s.edge(Sentences.TERMS, "or the text's length, if more must come.", () -> {
            ArchEnds x = new ArchEnds();
            String[] cut = {"shower", "shower 1", "shower 1 to", "shower 1 to 2", "shower 1 to 2 from", "shower 1 to 2 from 3",
                "shower 1 to 2 from 3 to", "shower 1 to 2 from 3 to 4 east", "shower 1 to 2 from 3 to 4 chance", "broker",
                "broker 1", "broker 1 at", "broker 1 at 2", "broker 1 at 2 pace", "deed", "deed 1", "deed 1 from", "deed 1 from 2",
                "deed 1 from 2 to", "deed 1 from 2 to 3", "deed 1 from 2 to 3 price", "road", "wage", "minute", "road 1;",
                "road 1;wage", "road 1;  "};
            for (String text : cut) {
                countyFault(new ArchEnds(), text, text.length());
                countyFault(new ArchEnds(), text + "  ", text.length() + 2);
            }
            String[] laws = {"cost", "bring", "slow", "cost 1;", "cost 1 if", "cost 1 if not", "cost 1 if (", "cost 1 if (wet",
                "cost 1 if wet and", "cost 1 if wet or", "cost 1 if acre", "cost 1 if acre +", "cost 1 if acre <", "cost 1 if 5 > 1 +"};
            for (String text : laws) {
                lawFault(x, text, text.length());
                lawFault(x, text + "  ", text.length() + 2);
            }
            countyFault(x, "road 1;".repeat(14), 98);
            lawFault(x, "cost 1;".repeat(12) + "  ", 86);
            countyFault(x, " ".repeat(396) + "road", 400);
        });
        s.edge(Sentences.TERMS, "Of a wrong text nothing stays.", () -> {
            ArchEnds x = Check.of("shower 1 to 2 from 3 to 4;broker 5 at 6 pace 1;deed 7 from 8 to 9 price 10;wage 11;minute 12;road 13");
            Check.law(x, "cost 14");
            x.road(1);
            String other = "shower 2 to 3 from 4 to 5;broker 6 at 7 pace 2;deed 8 from 9 to 10 price 11;wage 12;minute 13;road 14;";
            countyFault(x, other + "x", other.length());
            lawFault(x, "cost 15;bring 16;slow 17;x", 25);
            counts("then", x, 1, 1, 1, 1, 1, 12, 1, 11, 5, 0, 0, 1);
            Check.due("costs", x.costs(0, 0), 24);
            Check.due("walks by", x.broker(0, 3), 1);
            countyFault(x, "shower 2 to 3 from 4 to 5 east 2 chance 3x", 41);
            right(x, "shower 4 to 4 from 6 to 6");
            int[] want = {4, 4, 6, 6, 2, 100, 0};
            for (int what = 0; what < want.length; what++) {
                Check.due("shower(1, " + what + ")", x.shower(1, what), want[what]);
            }
        });
    }

    // ---- promises 7 to 9 and 54

    private static void whatIsTold(Sentences s) {
        ArchEnds x = Check.of("shower 1 to 2 from 3 to 4 west 1 chance 5;broker 9 at 6 pace 3;deed 7 from 8 to 9 price 4");
        x.buy(0, 0);
        x.tell(0, 1);
        s.edge(7, "Of a SHOWER what 0, 1 its ACRES, 2, 3 its MINUTES, 4 DRIFT and 2, 5 CHANCE, 6 the STATE.", () -> {
            int[] want = {1, 2, 3, 4, 1, 5, 1};
            for (int what = 0; what < want.length; what++) {
                Check.due("shower(0, " + what + ")", x.shower(0, what), want[what]);
            }
            for (int i : new int[] {1, 5, 6, -1, Integer.MIN_VALUE, Integer.MAX_VALUE}) {
                Check.dueThrow("shower(" + i + ", 0)", NO_SUCH, () -> x.shower(i, 0));
                Check.dueThrow("shower(" + i + ", 7)", NO_SUCH, () -> x.shower(i, 7));
            }
        });
        s.edge(7, "NoSuchElementException: another what.", () -> {
            Check.dueThrow("shower(0, 7)", NO_WHAT, () -> x.shower(0, 7));
            for (int what : NO_WHATS) {
                Check.dueThrow("shower(0, " + what + ")", NO_WHAT, () -> x.shower(0, what));
            }
        });
        s.edge(8, "Of a BROKER what 0 PURSE, 1 the ACRE, 2 PACE, 3 what it WALKS by, 4 its DEEDS, as bits, 5 WORTH.", () -> {
            int[] want = {5, 6, 3, 3, 1, 9};
            for (int what = 0; what < want.length; what++) {
                Check.due("broker(0, " + what + ")", x.broker(0, what), want[what]);
            }
            for (int i : new int[] {1, 4, 5, -1, Integer.MIN_VALUE, Integer.MAX_VALUE}) {
                Check.dueThrow("broker(" + i + ", 0)", NO_SUCH, () -> x.broker(i, 0));
                Check.dueThrow("broker(" + i + ", 6)", NO_SUCH, () -> x.broker(i, 6));
            }
            ArchEnds y = Check.of(DEED.repeat(8) + "broker 999 at 0 pace 1");
            for (int d = 0; d < 8; d++) {
                y.buy(0, d);
            }
            Check.due("all deeds", y.broker(0, 4), 255);
            Check.due("worth", y.broker(0, 5), 999);
        });
        s.edge(8, "NoSuchElementException: another what.", () -> {
            Check.dueThrow("broker(0, 6)", NO_WHAT, () -> x.broker(0, 6));
            for (int what : NO_WHATS) {
                Check.dueThrow("broker(0, " + what + ")", NO_WHAT, () -> x.broker(0, what));
            }
        });
        s.edge(9, "Of a DEED what 0 its ACRE, 1, 2 its MINUTES, 3 PRICE, 4 the OWNER (NONE), 5 WET, 6 1 if INSURED.", () -> {
            int[] want = {7, 8, 9, 4, 0, 0, 0};
            for (int what = 0; what < want.length; what++) {
                Check.due("deed(0, " + what + ")", x.deed(0, what), want[what]);
            }
            x.undo();
            x.undo();
            Check.due("no owner", x.deed(0, 4), -1);
            for (int i : new int[] {1, 7, 8, -1, Integer.MIN_VALUE, Integer.MAX_VALUE}) {
                Check.dueThrow("deed(" + i + ", 0)", NO_SUCH, () -> x.deed(i, 0));
                Check.dueThrow("deed(" + i + ", 7)", NO_SUCH, () -> x.deed(i, 7));
            }
        });
        s.edge(9, "NoSuchElementException: another what.", () -> {
            Check.dueThrow("deed(0, 7)", NO_WHAT, () -> x.deed(0, 7));
            for (int what : NO_WHATS) {
                Check.dueThrow("deed(0, " + what + ")", NO_WHAT, () -> x.deed(0, what));
            }
        });
    }

    private static void count(Sentences s) {
        s.edge(54, "0 SHOWERS, 1 BROKERS, 2 DEEDS, 3 texts of THE COUNTY, 4 LINES of THE LAW (NONE without one), 5 MINUTE, "
                + "6 ROAD, 7 WAGE, 8 PURSES of all together, 9 DEEDS with an OWNER, as bits, 10 rows of THE LOG, "
                + "11 acts that can be UNDONE.", () -> {
            ArchEnds x = new ArchEnds();
            Check.due("lines without a law", x.count(4), -1);
            Check.county(x, "shower 0 to 15 from 0 to 99;shower 0 to 15 from 0 to 99;broker 100 at 1 pace 1;wage 6;"
                    + "broker 11 at 1 pace 1;broker 7 at 1 pace 1;road 9");
            Check.county(x, "deed 5 from 0 to 99 price 1;deed 4 from 0 to 99 price 1;deed 5 from 0 to 99 price 1;"
                    + "deed 5 from 0 to 99 price 1");
            Check.law(x, "cost 1;slow 0");
            x.buy(0, 0);
            x.buy(1, 2);
            x.minutes(14);
            counts("then", x, 2, 3, 4, 2, 2, 14, 9, 6, 126, 5, 2, 3);
            ArchEnds y = Check.of("broker 999 at 1 pace 1;".repeat(4) + "broker 999 at 1 pace 1", DEED.repeat(7) + "deed 0 from 5 to 5 price 0");
            Check.due("five full purses", y.count(8), 4995);
            for (int d = 0; d < 8; d++) {
                y.buy(d % 5, d);
            }
            Check.due("all deeds", y.count(9), 255);
        });
        s.edge(54, "NONE for another what.", () -> {
            ArchEnds x = Check.of(FULL);
            for (int what : new int[] {12, 13, -1, -2, Integer.MIN_VALUE, Integer.MAX_VALUE}) {
                Check.due("count(" + what + ")", x.count(what), -1);
            }
        });
    }

    private static final String FULL = SHOWER.repeat(6) + BROKER.repeat(5) + "road 1";
}
