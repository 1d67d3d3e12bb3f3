/** Sentences about the sky, the feet and the showers, and about deeds and brokers: promises 19 to 44. */
final class EdgesOfQuestions {
    private static final Class<IndexOutOfBoundsException> NO_SUCH = IndexOutOfBoundsException.class;
    private static final Class<IllegalArgumentException> NO_NUMBER = IllegalArgumentException.class;
    private static final int MIN = Integer.MIN_VALUE;
    private static final int MAX = Integer.MAX_VALUE;
    private static final int[] NO_MINUTES = {-1, 10000, MIN, MAX};
    private static final int[] NO_ACRES = {-1, 16, MIN, MAX};
    private static final int[] NO_NS = {0, -1, 97, MIN, MAX};
    private static final String ALL_WET = "shower 0 to 15 from 0 to 999";
    private static final String THREE = "shower 0 to 3 from 0 to 9;shower 2 to 5 from 0 to 9;shower 8 to 9 from 0 to 9";

    private EdgesOfQuestions() {
    }

    static void run(Sentences s) {
        sunAndReach(s);
        foot(s);
        showers(s);
        arches(s);
        stands(s);
        firstAndSite(s);
        odds(s);
        gainAndDeals(s);
        meetAndRush(s);
        send(s);
        seen(s);
        ask(s);
        sprayAndBoth(s);
        rests(s);
        row(s);
        dryAndRich(s);
    }

    interface OfAMinute {
        long ask(int minute);
    }

    /** Minutes 0 and 9999 are answered, those beside them are not. */
    private static void askedOfMinutes(String name, OfAMinute question) {
        Check.due(name + " in minute 0 is answered", question.ask(0) > MIN, true);
        Check.due(name + " in minute 9999 is answered", question.ask(9999) > MIN, true);
        for (int minute : NO_MINUTES) {
            Check.dueThrow(name + " in minute " + minute, NO_NUMBER, () -> question.ask(minute));
        }
    }

    /** Acres 0 and 15 are answered; those beside them are refused ahead of a wrong minute. */
    private static void askedOfAcres(String name, OfAMinute question) {
        Check.due(name + " of acre 0 is answered", question.ask(0) > MIN, true);
        Check.due(name + " of acre 15 is answered", question.ask(15) > MIN, true);
        for (int acre : NO_ACRES) {
            Check.dueThrow(name + " of acre " + acre, NO_SUCH, () -> question.ask(acre));
        }
    }

    private static void askedOfNs(String name, OfAMinute question) {
        Check.due(name + " of 1 is answered", question.ask(1) > MIN, true);
        Check.due(name + " of 96 is answered", question.ask(96) > MIN, true);
        for (int n : NO_NS) {
            Check.dueThrow(name + " of " + n, NO_NUMBER, () -> question.ask(n));
        }
    }

    // ---- sun, reach and foot

    private static int bandOf(int hour) {
        int sun = 48 - Math.abs(hour - 48);
        for (int reach = 0; reach <= 6; reach++) {
            if (sun <= 42 - 6 * reach && sun > 36 - 6 * reach && sun > 0) {
                return reach;
            }
        }
        return -1;
    }

    private static void sunAndReach(Sentences s) {
        ArchEnds x = new ArchEnds();
        s.edge(Sentences.TERMS, "ACRES 0 to 15 in a row.", () -> {
            ArchEnds y = Check.of(ALL_WET + ";broker 0 at 7 pace 1");
            askedOfAcres("foot", a -> y.foot(a, 42));
            askedOfAcres("arch", a -> y.arch(a, 42) ? 1 : 0);
            askedOfAcres("wets", a -> y.wets(a, 42));
            askedOfAcres("looks", a -> y.looks(a, 42));
            askedOfAcres("stands", a -> y.stands(a, 42, 1));
            askedOfAcres("first", a -> y.first(a, 42));
            askedOfAcres("site", a -> y.site(a, 42, 1));
            askedOfAcres("odds", a -> y.odds(a, 42));
            askedOfAcres("rush", a -> y.rush(a));
            askedOfAcres("both", a -> y.both(a, 7, 42, 1));
            askedOfAcres("both, the other", a -> y.both(7, a, 42, 1));
            askedOfAcres("led", a -> y.led(a, true));
            askedOfAcres("road", a -> y.road(a));
        });
        s.edge(Sentences.TERMS, "MINUTE: 0 to 9999 (0 at first)", () -> {
            ArchEnds y = Check.of(ALL_WET + ";broker 0 at 7 pace 1;deed 0 from 0 to 9 price 1");
            Check.due("at first", y.count(5), 0);
            askedOfMinutes("brings", m -> y.brings(0, 0, m));
            askedOfMinutes("sun", m -> y.sun(m));
            askedOfMinutes("reach", m -> y.reach(m));
            askedOfMinutes("foot", m -> y.foot(0, m));
            askedOfMinutes("arch", m -> y.arch(0, m) ? 1 : 0);
            askedOfMinutes("wets", m -> y.wets(0, m));
            askedOfMinutes("looks", m -> y.looks(0, m));
            askedOfMinutes("stands", m -> y.stands(0, m, 96));
            askedOfMinutes("best", m -> y.best(m, 96));
            askedOfMinutes("first", m -> y.first(0, m));
            askedOfMinutes("site", m -> y.site(0, m, 96));
            askedOfMinutes("odds", m -> y.odds(0, m));
            askedOfMinutes("seen", m -> y.seen(m, true));
            askedOfMinutes("ask", m -> y.ask(m));
            askedOfMinutes("spray", m -> y.spray(m));
            askedOfMinutes("both", m -> y.both(0, 1, m, 96));
            askedOfMinutes("row", m -> y.row(1, m, -1));
        });
        s.edge(Sentences.TERMS, "of a DAY of 96: its HOUR is MINUTE modulo 96.", () -> {
            ArchEnds y = Check.of("broker 0 at 7 pace 1;deed 0 from 0 to 9 price 1;wage 0");
            Check.law(y, "bring 1 if hour > 94;bring 2 if hour < 1;bring 4 if hour > 95;bring 8 if hour > 0 and hour < 2");
            int[][] want = {{94, 0}, {95, 1}, {96, 2}, {97, 8}, {191, 1}, {192, 2}, {193, 8}, {9983, 1}, {9984, 2}, {9985, 8}, {9999, 0}};
            for (int[] w : want) {
                Check.due("brings in minute " + w[0], y.brings(0, 0, w[0]), w[1]);
            }
            for (int m = 0; m < 96; m++) {
                Check.due("sun of the next day", y.sun(96 + m), y.sun(m));
            }
            Check.due("foot of the next day", y.foot(8, 97), 2);
            Check.due("foot of a late day", y.foot(8, 9985), 2);
        });
        s.edge(Sentences.TERMS, "SUN of a MINUTE: 48 less how far its HOUR is from 48 (0 to 48).", () -> {
            for (int hour = 0; hour < 96; hour++) {
                Check.due("sun(" + hour + ")", x.sun(hour), 48 - Math.abs(hour - 48));
            }
            int[][] edges = {{0, 0}, {47, 47}, {48, 48}, {49, 47}, {95, 1}, {96, 0}, {144, 48}, {9999, 15}};
            for (int[] e : edges) {
                Check.due("sun(" + e[0] + ")", x.sun(e[0]), e[1]);
            }
        });
        s.edge(19, "SUN. IllegalArgumentException: the MINUTE is none.", () -> askedOfMinutes("sun", m -> x.sun(m)));
        ArchEnds z = new ArchEnds();
        s.edge(Sentences.TERMS, "REACH of a MINUTE: 42 less SUN, by 6, rounded down; there is none, if SUN is above 42 or 0.", () -> {
            for (int hour = 0; hour < 96; hour++) {
                Check.due("reach(" + hour + ")", z.reach(hour), bandOf(hour));
            }
            int[][] edges = {{0, -1}, {1, 6}, {6, 6}, {7, 5}, {36, 1}, {37, 0}, {42, 0}, {43, -1}, {48, -1}, {53, -1}, {54, 0}, {59, 0},
                {60, 1}, {95, 6}, {96, -1}, {97, 6}};
            for (int[] e : edges) {
                Check.due("reach(" + e[0] + ")", z.reach(e[0]), e[1]);
            }
        });
        s.edge(20, "REACH; NONE. IllegalArgumentException: the MINUTE is none.", () -> {
            Check.due("none at dawn", z.reach(0), -1);
            Check.due("none at noon", z.reach(48), -1);
            askedOfMinutes("reach", m -> z.reach(m));
        });
    }

    private static void foot(Sentences s) {
        s.edge(Sentences.TERMS, "THE FOOT for one who looks from an ACRE in a MINUTE: as many ACRES as REACH below it, "
                + "if HOUR is below 48, else above it; none, if there is no REACH, or no such ACRE.", () -> {
            for (int acre = 0; acre < 16; acre++) {
                ArchEnds x = new ArchEnds();
                for (int hour = 0; hour < 96; hour++) {
                    int reach = bandOf(hour);
                    int foot = hour < 48 ? acre - reach : acre + reach;
                    Check.due("foot(" + acre + ", " + hour + ")", x.foot(acre, hour), reach < 0 || foot < 0 || foot > 15 ? -1 : foot);
                }
            }
            ArchEnds y = new ArchEnds();
            int[][] edges = {{6, 1, 0}, {5, 1, -1}, {9, 95, 15}, {10, 95, -1}, {0, 42, 0}, {15, 54, 15}, {0, 36, -1}, {1, 36, 0},
                {15, 60, -1}, {14, 60, 15}, {8, 0, -1}, {8, 48, -1}};
            for (int[] e : edges) {
                Check.due("foot(" + e[0] + ", " + e[1] + ")", y.foot(e[0], e[1]), e[2]);
            }
        });
        s.edge(21, "FOOT; NONE. IllegalArgumentException: the MINUTE is none.", () -> {
            ArchEnds x = new ArchEnds();
            Check.due("a foot without showers", x.foot(8, 1), 2);
            Check.due("none", x.foot(5, 1), -1);
            askedOfMinutes("foot", m -> x.foot(8, m));
            askedOfAcres("foot", a -> x.foot(a, 1));
            Check.dueThrow("neither", NO_SUCH, () -> x.foot(16, -1));
        });
    }

    // ---- showers and arches

    private static void showers(Sentences s) {
        s.edge(Sentences.TERMS, "from an ACRE to an ACRE, from a MINUTE to a MINUTE (both too)", () -> {
            ArchEnds x = Check.of("shower 3 to 5 from 10 to 12;shower 7 to 7 from 20 to 20");
            int[][] want = {{2, 11, 0}, {3, 11, 1}, {5, 11, 1}, {6, 11, 0}, {3, 9, 0}, {3, 10, 1}, {5, 12, 1}, {5, 13, 0}, {7, 19, 0},
                {7, 20, 2}, {7, 21, 0}, {6, 20, 0}, {8, 20, 0}};
            for (int[] w : want) {
                Check.due("wets(" + w[0] + ", " + w[1] + ")", x.wets(w[0], w[1]), w[2]);
            }
        });
        s.edge(Sentences.TERMS, "A SHOWER lies in a MINUTE of its MINUTES over its ACRES, all moved by DRIFT for every full 4 MINUTES "
                + "behind its first one.", () -> {
            int[][] drifts = {{0, 0}, {1, 1}, {2, 2}, {1, -1}, {2, -2}};
            for (int[] d : drifts) {
                ArchEnds x = Check.of("shower 6 to 8 from 10 to 40 " + (d[1] < 0 ? "west " : "east ") + d[0]);
                for (int m : new int[] {9, 10, 13, 14, 17, 18, 22, 26, 30, 37, 38, 40, 41}) {
                    int moved = (m - 10) / 4 * d[1];
                    for (int acre = 0; acre < 16; acre++) {
                        boolean over = m >= 10 && m <= 40 && acre >= 6 + moved && acre <= 8 + moved;
                        Check.due("wets(" + acre + ", " + m + ") by drift " + d[1], x.wets(acre, m), over ? 1 : 0);
                    }
                }
            }
            ArchEnds y = Check.of("shower 15 to 15 from 0 to 999 east 2;shower 0 to 0 from 0 to 999 west 2");
            Check.due("the last of them", y.wets(15, 3) * 10 + y.wets(0, 3), 12);
            Check.due("gone, and not round the row", y.wets(15, 4) + y.wets(0, 4) + y.wets(1, 4) + y.wets(14, 4), 0);
            Check.due("long gone", y.wets(15, 999) + y.wets(0, 999), 0);
        });
        s.edge(Sentences.TERMS, "It WETS an ACRE in a MINUTE, if it lies over it then and its STATE is not 2.", () -> {
            ArchEnds x = Check.of("shower 3 to 5 from 10 to 12 chance 0");
            Check.due("state 0", x.wets(4, 11), 1);
            x.tell(0, 1);
            Check.due("state 1", x.wets(4, 11), 1);
            x.tell(0, 2);
            Check.due("state 2", x.wets(4, 11), 0);
        });
        s.edge(23, "SHOWERS that WET an ACRE, as bits. IllegalArgumentException: the MINUTE is none.", () -> {
            ArchEnds x = Check.of("shower 3 to 5 from 10 to 12;".repeat(5) + "shower 4 to 4 from 12 to 12");
            Check.due("all six", x.wets(4, 12), 63);
            Check.due("five", x.wets(4, 10), 31);
            Check.due("none", x.wets(6, 10), 0);
            askedOfMinutes("wets", m -> x.wets(4, m));
            askedOfAcres("wets", a -> x.wets(a, 12));
            Check.dueThrow("neither", NO_SUCH, () -> x.wets(-1, 10000));
        });
    }

    private static void arches(Sentences s) {
        s.edge(Sentences.TERMS, "ARCH: one who looks sees it in a MINUTE, if there is THE FOOT, and some SHOWER WETS that ACRE then.",
                () -> {
            ArchEnds x = Check.of("shower 2 to 5 from 1 to 20;shower 15 to 15 from 60 to 63");
            int[][] want = {{8, 1, 1}, {7, 1, 0}, {11, 1, 1}, {12, 1, 0}, {5, 1, 0}, {8, 0, 0}, {5, 20, 1}, {14, 60, 1}, {15, 60, 0},
                {14, 64, 0}};
            for (int[] w : want) {
                Check.due("arch(" + w[0] + ", " + w[1] + ")", x.arch(w[0], w[1]), w[2] == 1);
            }
        });
        s.edge(Sentences.TERMS, "(STATES as they are; one of STATE 0 WETS, too.) FOOT for one who looks from an ACRE in a MINUTE; "
                + "whether there is an ARCH.", () -> {
            ArchEnds x = Check.of("shower 2 to 2 from 1 to 6 chance 0");
            Check.due("by state 0", x.arch(8, 1), true);
            Check.due("stands by state 0", x.stands(2, 0, 96), 6);
            x.tell(0, 2);
            Check.due("by state 2", x.arch(8, 1), false);
            Check.due("stands by state 2", x.stands(2, 0, 96), 0);
            Check.due("the foot all the same", x.foot(8, 1), 2);
            x.tell(0, 1);
            Check.due("by state 1", x.arch(8, 1), true);
        });
        s.edge(22, "Whether one who looks from an ACRE sees an ARCH. IllegalArgumentException: the MINUTE is none.", () -> {
            ArchEnds x = Check.of(ALL_WET);
            Check.due("no foot, no arch", x.arch(5, 1), false);
            Check.due("an arch", x.arch(6, 1), true);
            askedOfMinutes("arch", m -> x.arch(8, m) ? 1 : 0);
            askedOfAcres("arch", a -> x.arch(a, 1) ? 1 : 0);
            Check.dueThrow("neither", NO_SUCH, () -> x.arch(16, -1) ? 1 : 0);
            Check.due("no shower, no arch", new ArchEnds().arch(8, 1), false);
        });
        s.edge(Sentences.TERMS, "LOOKS: ACRES from which an ACRE is THE FOOT in a MINUTE with an ARCH, as bits.", () -> {
            ArchEnds x = Check.of("shower 0 to 15 from 1 to 1;shower 2 to 2 from 95 to 95;shower 15 to 15 from 95 to 95");
            for (int acre = 0; acre < 16; acre++) {
                Check.due("looks(" + acre + ", 1)", x.looks(acre, 1), acre < 10 ? 1 << (acre + 6) : 0);
            }
            Check.due("from below", x.looks(15, 95), 1 << 9);
            Check.due("no such acre from which", x.looks(2, 95), 0);
            Check.due("dry", x.looks(14, 95), 0);
            ArchEnds y = Check.of(ALL_WET);
            Check.due("none below the row looks", y.looks(0, 60), 0);
            Check.due("the lowest looks", y.looks(1, 60), 1);
            Check.due("none above the row looks", y.looks(15, 36), 0);
            Check.due("the highest looks", y.looks(14, 36), 1 << 15);
        });
        s.edge(24, "LOOKS, as bits. IllegalArgumentException: the MINUTE is none.", () -> {
            ArchEnds x = Check.of(ALL_WET);
            Check.due("the highest", x.looks(15, 42), 1 << 15);
            Check.due("the lowest", x.looks(0, 54), 1);
            Check.due("none", x.looks(0, 48), 0);
            askedOfMinutes("looks", m -> x.looks(2, m));
            askedOfAcres("looks", a -> x.looks(a, 1));
            Check.dueThrow("neither", NO_SUCH, () -> x.looks(-1, -1));
        });
    }

    // ---- where it stands

    private static void stands(Sentences s) {
        s.edge(Sentences.TERMS, "STANDS of an ACRE from a MINUTE on for N MINUTES (1 to 96): in how many of them it is THE FOOT of an ARCH "
                + "from ROAD.", () -> {
            ArchEnds x = Check.of(ALL_WET);
            int[][] want = {{2, 1, 1, 1}, {2, 0, 1, 0}, {2, 6, 1, 1}, {2, 7, 1, 0}, {2, 0, 6, 5}, {2, 0, 7, 6}, {2, 0, 96, 6}, {2, 1, 96, 6},
                {2, 2, 96, 6}, {8, 0, 96, 12}, {15, 0, 96, 0}, {2, 999, 96, 0}, {3, 998, 96, 0}, {2, 9999, 96, 0}};
            for (int[] w : want) {
                Check.due("stands(" + w[0] + ", " + w[1] + ", " + w[2] + ")", x.stands(w[0], w[1], w[2]), w[3]);
            }
            x.road(9);
            Check.due("from road 9", x.stands(15, 0, 96), 6);
            Check.due("from road 9, not 8", x.stands(2, 0, 96), 0);
        });
        s.edge(25, "STANDS. IllegalArgumentException: the MINUTE or N are none.", () -> {
            ArchEnds x = Check.of(ALL_WET);
            askedOfMinutes("stands", m -> x.stands(2, m, 96));
            askedOfNs("stands", n -> x.stands(2, 0, n));
            askedOfAcres("stands", a -> x.stands(a, 1, 1));
            Check.dueThrow("none of them", NO_SUCH, () -> x.stands(16, -1, 0));
        });
        s.edge(Sentences.TERMS, "BEST: the ACRE that STANDS the longest (of several the least).", () -> {
            ArchEnds x = Check.of("shower 2 to 5 from 1 to 20;shower 9 to 9 from 60 to 63");
            int[][] want = {{0, 96, 2}, {1, 1, 2}, {2, 8, 2}, {4, 7, 3}, {4, 6, 2}, {60, 4, 9}, {30, 5, 0}, {0, 1, 0}, {9999, 96, 0},
                {16, 5, 4}, {18, 2, 4}, {18, 3, 5}};
            for (int[] w : want) {
                Check.due("best(" + w[0] + ", " + w[1] + ")", x.best(w[0], w[1]), w[2]);
            }
            Check.due("without a shower", new ArchEnds().best(0, 96), 0);
            Check.due("on the highest", Check.of("road 9;shower 15 to 15 from 0 to 99").best(0, 96), 15);
            Check.due("on the lowest but one", Check.of("road 7;shower 1 to 1 from 0 to 9").best(0, 96), 1);
            Check.due("on the lowest", Check.of("road 6;shower 0 to 1 from 0 to 9").best(0, 9), 0);
        });
        s.edge(26, "BEST (of N MINUTES from a told one on). IllegalArgumentException: the MINUTE or N are none.", () -> {
            ArchEnds x = Check.of(ALL_WET);
            Check.due("8 stands for 12 of 96", x.best(0, 96), 8);
            Check.due("2 stands in the first of them", x.best(6, 2), 2);
            Check.due("the last of them is in", x.best(6, 3), 3);
            askedOfMinutes("best", m -> x.best(m, 96));
            askedOfNs("best", n -> x.best(0, n));
        });
    }

    private static void firstAndSite(Sentences s) {
        s.edge(Sentences.TERMS, "FIRST of an ACRE: the first MINUTE from a told one on, of 200 of them, in which an ARCH from ROAD has its "
                + "foot there; none.", () -> {
            ArchEnds x = Check.of("shower 5 to 5 from 19 to 20;shower 4 to 4 from 301 to 301;shower 2 to 2 from 0 to 1");
            int[][] want = {{5, 0, 19}, {5, 19, 19}, {5, 20, 20}, {5, 21, -1}, {4, 102, 301}, {4, 101, -1}, {4, 301, 301}, {4, 302, -1},
                {2, 0, 1}, {2, 1, 1}, {2, 2, -1}, {7, 0, -1}, {4, 9999, -1}};
            for (int[] w : want) {
                Check.due("first(" + w[0] + ", " + w[1] + ")", x.first(w[0], w[1]), w[2]);
            }
            x.road(9);
            Check.due("not from road 9", x.first(5, 0), -1);
        });
        s.edge(27, "FIRST; NONE. IllegalArgumentException: the MINUTE is none.", () -> {
            ArchEnds x = Check.of(ALL_WET);
            Check.due("first", x.first(2, 7), 97);
            Check.due("none", x.first(15, 0), -1);
            Check.due("behind the last shower", x.first(2, 999), -1);
            askedOfMinutes("first", m -> x.first(2, m));
            askedOfAcres("first", a -> x.first(a, 0));
            Check.dueThrow("neither", NO_SUCH, () -> x.first(16, -1));
        });
        s.edge(Sentences.TERMS, "SITE of an ACRE: from which ROAD it would STAND the longest in N MINUTES from a told one on "
                + "(of several the least).", () -> {
            ArchEnds x = Check.of("shower 2 to 5 from 1 to 20;shower 9 to 9 from 60 to 63");
            int[][] want = {{3, 0, 30, 7}, {3, 1, 6, 9}, {3, 1, 12, 8}, {3, 1, 7, 9}, {9, 60, 1, 8}, {9, 0, 96, 8}, {15, 0, 96, 0},
                {3, 0, 1, 0}, {3, 20, 1, 6}, {3, 21, 96, 0}};
            for (int[] w : want) {
                Check.due("site(" + w[0] + ", " + w[1] + ", " + w[2] + ")", x.site(w[0], w[1], w[2]), w[3]);
            }
            x.road(0);
            Check.due("the road that is told does not count", x.site(3, 0, 30), 7);
            Check.due("from the highest", Check.of("shower 9 to 9 from 1 to 6").site(9, 0, 96), 15);
            ArchEnds y = Check.of(ALL_WET);
            Check.due("from the lowest", y.site(0, 0, 96), 0);
            Check.due("from the lowest but one", y.site(0, 31, 6), 1);
            Check.due("from none above the row", y.site(15, 31, 6), 0);
            Check.due("from none below the row", y.site(0, 60, 6), 0);
        });
        s.edge(28, "SITE. IllegalArgumentException: the MINUTE or N are none.", () -> {
            ArchEnds x = Check.of(ALL_WET);
            Check.due("site", x.site(9, 1, 6), 15);
            askedOfMinutes("site", m -> x.site(2, m, 96));
            askedOfNs("site", n -> x.site(2, 0, n));
            askedOfAcres("site", a -> x.site(a, 1, 1));
            Check.dueThrow("none of them", NO_SUCH, () -> x.site(16, -1, 0));
        });
    }

    // ---- odds, hope and gain

    private static void odds(Sentences s) {
        s.edge(Sentences.TERMS, "ODDS of an ACRE in a MINUTE: in ten thousandths (rounded down) that some SHOWER WETS it: "
                + "one of STATE 1 surely, 2 never, 0 by CHANCE, each by itself.", () -> {
            ArchEnds x = Check.of("shower 2 to 5 from 1 to 20 chance 50;shower 4 to 6 from 1 to 20 chance 33;shower 4 to 4 from 1 to 20 chance 77");
            int[][] want = {{2, 1, 5000}, {2, 0, 0}, {2, 20, 5000}, {2, 21, 0}, {5, 1, 6650}, {6, 1, 3300}, {7, 1, 0}, {4, 1, 9229}};
            for (int[] w : want) {
                Check.due("odds(" + w[0] + ", " + w[1] + ")", x.odds(w[0], w[1]), w[2]);
            }
            x.tell(0, 1);
            Check.due("surely", x.odds(4, 1), 10000);
            Check.due("surely, not elsewhere", x.odds(6, 1), 3300);
            Check.due("surely, not in another minute", x.odds(4, 0), 0);
            x.tell(0, 2);
            Check.due("never", x.odds(2, 1), 0);
            Check.due("of two", x.odds(4, 1), 8459);
            Check.due("by 0", Check.of("shower 0 to 9 from 0 to 9 chance 0").odds(0, 0), 0);
            Check.due("by 100", Check.of("shower 0 to 9 from 0 to 9").odds(0, 0), 10000);
            String nine = "shower 0 to 9 from 0 to 9 chance 99";
            Check.due("six by 99: not quite all", Check.of((nine + ";").repeat(5) + nine).odds(0, 0), 9999);
            Check.due("one of six by 100", Check.of((nine + ";").repeat(5) + "shower 0 to 9 from 0 to 9").odds(0, 0), 10000);
            String one = "shower 0 to 9 from 0 to 9 chance 1";
            Check.due("six by 1", Check.of((one + ";").repeat(5) + one).odds(0, 0), 585);
        });
        s.edge(29, "ODDS. IllegalArgumentException: the MINUTE is none.", () -> {
            ArchEnds x = Check.of("shower 2 to 5 from 1 to 20 chance 50");
            Check.due("odds", x.odds(2, 1), 5000);
            Check.due("without a shower", new ArchEnds().odds(2, 1), 0);
            askedOfMinutes("odds", m -> x.odds(2, m));
            askedOfAcres("odds", a -> x.odds(a, 1));
            Check.dueThrow("neither", NO_SUCH, () -> x.odds(16, -1));
        });
        s.edge(Sentences.TERMS, "HOPE of a DEED: of all its MINUTES together the ODDS of its ACRE, in each in which it is THE FOOT from ROAD, "
                + "by 100, rounded down at last.", () -> {
            String nine = "shower 4 to 4 from 0 to 99 chance 99;";
            ArchEnds x = Check.of(nine.repeat(6) + "deed 4 from 0 to 999 price 1;deed 4 from 14 to 15 price 1;deed 4 from 18 to 18 price 1;"
                    + "deed 4 from 19 to 60 price 1;deed 5 from 0 to 99 price 1");
            int[] want = {599, 199, 99, 0, 0};
            for (int d = 0; d < want.length; d++) {
                Check.due("hope(" + d + ")", x.hope(d), want[d]);
            }
            x.minutes(16);
            for (int i = 0; i < 6; i++) {
                x.tell(i, 0);
            }
            Check.due("all its minutes, not those from now on", x.hope(0), 599);
            x.road(9);
            Check.due("from road 9 in minutes 7 to 12", x.hope(0), 599);
            Check.due("from road 9 not in 14 and 15", x.hope(1), 0);
            ArchEnds y = Check.of("shower 2 to 2 from 1 to 1 chance 1;deed 2 from 0 to 9 price 1");
            Check.due("a hope of 1", y.hope(0), 1);
        });
        s.edge(30, "HOPE.", () -> {
            ArchEnds x = Check.of(ALL_WET + ";deed 4 from 0 to 999 price 1");
            Check.due("six minutes on each of eleven days", x.hope(0), 6600);
            for (int d : new int[] {1, 8, -1, MIN, MAX}) {
                Check.dueThrow("hope(" + d + ")", NO_SUCH, () -> x.hope(d));
            }
            x.tell(0, 2);
            Check.due("without hope", x.hope(0), 0);
        });
    }

    private static void gainAndDeals(Sentences s) {
        String county = "shower 2 to 5 from 1 to 20;broker 100 at 4 pace 2;broker 29 at 12 pace 3;deed 3 from 1 to 12 price 10;"
                + "deed 4 from 10 to 20 price 30;deed 4 from 18 to 30 price 20;deed 2 from 0 to 95 price 5;wage 6";
        s.edge(Sentences.TERMS, "GAIN of a DEED for a BROKER: what it BRINGS that one (who is that one; owned as it is now) in all its MINUTES "
                + "from now on together in which its ACRE is THE FOOT of an ARCH from ROAD, less what it COSTS that one now "
                + "(it may be below 0).", () -> {
            ArchEnds x = Check.of(county);
            int[] gains = {26, 6, -14, 31};
            for (int d = 0; d < gains.length; d++) {
                Check.due("gain(0, " + d + ")", x.gain(0, d), gains[d]);
            }
            Check.law(x, "bring 10 if who > 0;bring 4 if owned;cost 1;cost 2 if hour > 6");
            Check.due("who is that one", x.gain(1, 0), 6 * 16 - 11);
            Check.due("not owned now", x.gain(0, 3), 6 * 6 - 6);
            x.buy(1, 3);
            Check.due("owned now", x.gain(0, 3), 6 * 10 - 6);
            x.minutes(7);
            Check.due("minute 7 is still to come", x.gain(0, 0), 6 * 6 - 13);
            x.minutes(1);
            Check.due("it is over", x.gain(0, 0), 5 * 6 - 13);
            x.minutes(4);
            Check.due("its last minute", x.gain(0, 0), 6 - 13);
            x.minutes(1);
            Check.due("all are over", x.gain(0, 0), -13);
            x.road(9);
            Check.due("from road 9 it is on 5", x.gain(0, 1), -33);
            x.undo();
            Check.due("from road 8 on 4", x.gain(0, 1), 6 * 6 - 33);
            x.tell(0, 2);
            Check.due("without a shower", x.gain(0, 1), -33);
        });
        s.edge(31, "GAIN.", () -> {
            ArchEnds x = Check.of(county);
            Check.due("gain", x.gain(1, 0), 26);
            Check.due("below 0", x.gain(1, 2), -14);
            for (int i : new int[] {4, 8, -1, MIN, MAX}) {
                Check.dueThrow("gain(" + i + ", 0)", NO_SUCH, () -> x.gain(i, 0));
                Check.dueThrow("gain(0, " + i + ")", NO_SUCH, () -> x.gain(0, i));
            }
            Check.dueThrow("gain(2, 0)", NO_SUCH, () -> x.gain(2, 0));
        });
        s.edge(Sentences.TERMS, "DEALS of a BROKER: of all sets of DEEDS without an OWNER what COSTS it together is PURSE at most, "
                + "the one of the most GAIN together: of several the least as bits (the empty one has 0); how much.", () -> {
            String deeds = ";wage 5;shower 2 to 2 from 0 to 9;deed 2 from 1 to 3 price 10;deed 2 from 1 to 2 price 5;deed 2 from 1 to 2 price 5;"
                    + "deed 2 from 1 to 1 price 5";
            int[][] want = {{10, 6, 10}, {9, 2, 5}, {5, 2, 5}, {4, 0, 0}, {0, 0, 0}, {14, 6, 10}, {15, 3, 10}, {19, 3, 10}, {20, 7, 15}, {999, 7, 15}};
            for (int[] w : want) {
                ArchEnds x = Check.of("broker " + w[0] + " at 0 pace 1" + deeds);
                Check.due("deals by a purse of " + w[0], x.deals(0, false), w[1]);
                Check.due("how much by " + w[0], x.deals(0, true), w[2]);
            }
            ArchEnds y = Check.of("broker 15 at 0 pace 1;broker 9 at 0 pace 1" + deeds);
            y.buy(1, 1);
            Check.due("one with an owner is in none", y.deals(0, false), 5);
            Check.due("how much", y.deals(0, true), 10);
            y.minutes(10);
            Check.due("the empty set", y.deals(0, false), 0);
            Check.due("the empty set has 0", y.deals(0, true), 0);
            String one = "broker 9 at 0 pace 1;shower 2 to 2 from 1 to 1;deed 2 from 0 to 9 price 5;wage ";
            int[][] gains = {{4, 0, 0}, {5, 0, 0}, {6, 1, 1}};
            for (int[] g : gains) {
                Check.due("one deed by a wage of " + g[0], Check.of(one + g[0]).deals(0, false), g[1]);
                Check.due("how much by a wage of " + g[0], Check.of(one + g[0]).deals(0, true), g[2]);
            }
        });
        s.edge(32, "DEALS, as bits (much false), or how much.", () -> {
            String deed = "deed 2 from 1 to 6 price 1;";
            ArchEnds x = Check.of(deed.repeat(8) + "broker 999 at 0 pace 1;broker 7 at 0 pace 1;broker 0 at 0 pace 1;shower 2 to 2 from 0 to 9");
            Check.due("all eight", x.deals(0, false), 255);
            Check.due("all eight bring", x.deals(0, true), 8 * 29);
            Check.due("the first seven", x.deals(1, false), 127);
            Check.due("none", x.deals(2, false), 0);
            Check.due("none brings", x.deals(2, true), 0);
            Check.due("without deeds", Check.of("broker 9 at 0 pace 1").deals(0, false), 0);
            for (int b : new int[] {3, 5, -1, MIN, MAX}) {
                Check.dueThrow("deals(" + b + ", false)", NO_SUCH, () -> x.deals(b, false));
                Check.dueThrow("deals(" + b + ", true)", NO_SUCH, () -> x.deals(b, true));
            }
        });
    }

    // ---- who walks where

    private static void meetAndRush(Sentences s) {
        s.edge(Sentences.TERMS, "MEET of two BROKERS: the ACRE to which both come the soonest by PACE (the greater of both times, in MINUTES, "
                + "rounded up; of several the least).", () -> {
            int[][] want = {{0, 4, 9, 4, 1}, {9, 4, 0, 4, 1}, {0, 1, 15, 4, 3}, {15, 1, 0, 4, 12}, {0, 1, 0, 1, 0}, {15, 1, 15, 1, 15}, {4, 2, 12, 3, 6},
                {0, 4, 4, 4, 0}, {0, 4, 5, 4, 1}, {14, 1, 15, 1, 14}, {0, 1, 15, 1, 7}, {1, 4, 2, 4, 0}, {13, 4, 14, 4, 10}};
            for (int[] w : want) {
                ArchEnds x = Check.of("broker 0 at " + w[0] + " pace " + w[1] + ";broker 0 at " + w[2] + " pace " + w[3]);
                Check.law(x, "slow 99");
                Check.due("meet of " + w[0] + " by " + w[1] + " and " + w[2] + " by " + w[3], x.meet(0, 1), w[4]);
                Check.due("the other way round", x.meet(1, 0), w[4]);
            }
        });
        s.edge(33, "MEET. IllegalArgumentException: both are one.", () -> {
            ArchEnds x = Check.of("broker 0 at 0 pace 1;broker 0 at 9 pace 2");
            Check.due("meet", x.meet(0, 1), 3);
            Check.dueThrow("both are one", NO_NUMBER, () -> x.meet(1, 1));
            for (int b : new int[] {2, 5, -1, MIN, MAX}) {
                Check.dueThrow("meet(" + b + ", 0)", NO_SUCH, () -> x.meet(b, 0));
                Check.dueThrow("meet(0, " + b + ")", NO_SUCH, () -> x.meet(0, b));
                Check.dueThrow("both are none", NO_SUCH, () -> x.meet(b, b));
            }
        });
        s.edge(Sentences.TERMS, "RUSH: the BROKER who can be the first on an ACRE by PACE (of several the least; none).", () -> {
            ArchEnds x = Check.of("broker 0 at 0 pace 1;broker 0 at 9 pace 4;broker 0 at 9 pace 4;broker 0 at 15 pace 1");
            Check.law(x, "slow 99");
            int[] want = {0, 0, 0, 1, 1, 1, 1, 1, 1, 1, 1, 1, 1, 1, 3, 3};
            for (int acre = 0; acre < 16; acre++) {
                Check.due("rush(" + acre + ")", x.rush(acre), want[acre]);
            }
            Check.due("none", new ArchEnds().rush(0), -1);
        });
        s.edge(35, "RUSH; NONE.", () -> {
            ArchEnds x = Check.of("broker 0 at 0 pace 1");
            Check.due("from one end to the other", x.rush(15), 0);
            Check.due("none", new ArchEnds().rush(15), -1);
            askedOfAcres("rush", a -> x.rush(a));
            askedOfAcres("rush of none", a -> new ArchEnds().rush(a));
        });
    }

    private static void tell(ArchEnds x, int... told) {
        byte[] bytes = new byte[told.length];
        for (int i = 0; i < told.length; i++) {
            bytes[i] = (byte) told[i];
        }
        Check.tape(x, bytes);
    }

    private static int send(ArchEnds x, int broker, int... places) {
        tell(x, places);
        return x.send(broker);
    }

    private static void send(Sentences s) {
        s.edge(Sentences.TERMS, "GO: all BROKERS and as many told ACRES (the TAPE: a byte for each BROKER, 0 to 15): each to one of these, "
                + "so that MINUTES by PACE (rounded up) are the fewest together: how many; to which of them (its number on the TAPE) "
                + "one goes in the first such way (BROKER 0 the least that can be, then 1, ..).", () -> {
            ArchEnds x = Check.of("broker 0 at 0 pace 1;broker 0 at 3 pace 1;broker 0 at 6 pace 1;broker 0 at 9 pace 1;broker 0 at 15 pace 1");
            Check.law(x, "slow 99");
            Check.due("all five where they are", send(x, -1, 15, 9, 6, 3, 0), 0);
            Check.due("all five on acre 15", send(x, -1, 15, 15, 15, 15, 15), 42);
            for (int b = 0; b < 5; b++) {
                Check.due("turned round, broker " + b, send(x, b, 15, 9, 6, 3, 0), 4 - b);
                Check.due("all to one acre, broker " + b, send(x, b, 7, 7, 7, 7, 7), b);
            }
            ArchEnds y = Check.of("broker 0 at 0 pace 4;broker 0 at 0 pace 4;broker 0 at 0 pace 1");
            Check.due("9 by 4 is 3, 1 by 4 is 1, 0", send(y, -1, 9, 1, 0), 4);
            int[] way = {0, 1, 2};
            int[] turned = {0, 2, 1};
            for (int b = 0; b < 3; b++) {
                Check.due("the least for 0, then for 1, broker " + b, send(y, b, 9, 1, 0), way[b]);
                Check.due("the slow one stays, broker " + b, send(y, b, 9, 0, 2), turned[b]);
            }
            ArchEnds z = Check.of("broker 0 at 8 pace 1;broker 0 at 8 pace 1");
            Check.due("16 is no acre", refusedTape(z, 8, 16), 1);
            Check.due("0 and 15", send(z, -1, 0, 15), 15);
            z.image();
            Check.county(z, "broker 0 at 8 pace 1");
            Check.due("one broker more", send(z, -1, 7, 6, 5), 6);
            z.back();
            Check.due("one fewer again", send(z, -1, 7, 6), 3);
        });
        s.edge(34, "Uses the TAPE up: GO: how many (broker NONE), or to which one goes. IndexOutOfBoundsException: there is no such BROKER; "
                + "IllegalArgumentException: the TAPE is not that.", () -> {
            ArchEnds x = Check.of("broker 0 at 0 pace 1;broker 0 at 9 pace 4");
            Check.due("how many", send(x, -1, 8, 1), 2);
            Check.due("the tape is used up", x.end(1), false);
            Check.due("to which", send(x, 0, 8, 1) * 10 + send(x, 1, 8, 1), 10);
            Check.dueThrow("an empty tape", NO_NUMBER, () -> send(x, -1));
            Check.dueThrow("an acre too few", NO_NUMBER, () -> send(x, 0, 1));
            Check.dueThrow("an acre too many", NO_NUMBER, () -> send(x, 0, 1, 2, 3));
            Check.dueThrow("no acre", NO_NUMBER, () -> send(x, 1, 16, 1));
            Check.dueThrow("no acre", NO_NUMBER, () -> send(x, 1, 1, 255));
            Check.due("the tape is used up", x.end(1), false);
            for (int b : new int[] {2, 5, -2, MIN, MAX}) {
                Check.dueThrow("send(" + b + ")", NO_SUCH, () -> send(x, b, 1, 2));
                Check.due("the tape is used up", x.end(1), false);
                Check.dueThrow("send(" + b + ") by a wrong tape", NO_SUCH, () -> send(x, b, 99));
                Check.due("the tape is used up", x.end(1), false);
            }
            ArchEnds y = new ArchEnds();
            Check.due("no brokers, no acres", y.send(-1), 0);
            Check.dueThrow("no broker 0", NO_SUCH, () -> y.send(0));
            Check.dueThrow("no brokers, an acre", NO_NUMBER, () -> send(y, -1, 1));
        });
    }

    private static int refusedTape(ArchEnds x, int... places) {
        try {
            send(x, -1, places);
            return 0;
        } catch (IllegalArgumentException e) {
            return 1;
        }
    }

    // ---- what was seen

    private static int seen(ArchEnds x, boolean sure, int... told) {
        tell(x, told);
        return x.seen(5, sure);
    }

    private static int ask(ArchEnds x, int... told) {
        tell(x, told);
        return x.ask(5);
    }

    private static void seen(Sentences s) {
        s.edge(Sentences.TERMS, "SEEN: told are ACRES and whether they were wet (1) or not (0) in a told MINUTE: sets of SHOWERS "
                + "(just those that come; those of STATE 1 are in each, those of STATE 2 in none) that fit: how many; "
                + "SURE: SHOWERS in all of these, as bits (0 without).", () -> {
            ArchEnds x = Check.of(THREE);
            int[][] want = {{8, 0}, {6, 0, 2, 1}, {4, 1, 0, 1}, {4, 0, 4, 0}, {2, 0, 3, 0}, {2, 1, 0, 1, 5, 0}, {2, 2, 0, 0, 2, 1},
                {0, 0, 0, 1, 0, 0}, {0, 0, 15, 1}, {8, 0, 15, 0}, {1, 7, 0, 1, 5, 1, 9, 1}, {1, 0, 2, 0, 5, 0, 0, 0, 8, 0}};
            for (int[] w : want) {
                int[] told = java.util.Arrays.copyOfRange(w, 2, w.length);
                Check.due("sets by " + java.util.Arrays.toString(told), seen(x, false, told), w[0]);
                Check.due("sure by " + java.util.Arrays.toString(told), seen(x, true, told), w[1]);
            }
            x.tell(2, 1);
            Check.due("one of state 1 is in each", seen(x, false) * 10 + seen(x, true), 44);
            Check.due("though 8 was not wet", seen(x, false, 8, 0), 0);
            x.tell(2, 2);
            Check.due("one of state 2 is in none", seen(x, false) * 10 + seen(x, true), 40);
            Check.due("though 8 was wet", seen(x, false, 8, 1), 0);
            x.tell(0, 1);
            Check.due("shower 0 of state 1", seen(x, false) * 10 + seen(x, true), 21);
            x.tell(0, 2);
            Check.due("shower 0 of state 2", seen(x, false) * 10 + seen(x, true), 20);
            Check.due("though 0 was wet", seen(x, false, 0, 1), 0);
            String shower = "shower 0 to 0 from 0 to 9;";
            ArchEnds y = Check.of(shower.repeat(6) + "road 1");
            Check.due("six showers", seen(y, false), 64);
            Check.due("some of six", seen(y, false, 0, 1), 63);
            Check.due("none of six", seen(y, false, 0, 0), 1);
            ArchEnds z = new ArchEnds();
            Check.due("no showers: the empty set", seen(z, false), 1);
            Check.due("no showers, but wet", seen(z, false, 3, 1), 0);
            Check.due("none sure", seen(z, true), 0);
        });
        s.edge(36, "Uses the TAPE up: SEEN (of each two bytes: ACRE, 1 or 0; at most 40 bytes): how many sets (sure false), or SURE, as bits.",
                () -> {
            ArchEnds x = Check.of(THREE);
            Check.due("sets", seen(x, false, 0, 1), 4);
            Check.due("the tape is used up", x.end(1), false);
            Check.due("sure", seen(x, true, 0, 1), 1);
            Check.due("the tape is used up", x.end(1), false);
            int[] forty = new int[40];
            forty[38] = 15;
            Check.due("40 bytes", seen(x, false, forty), 4);
            forty[39] = 1;
            Check.due("the last two of 40", seen(x, false, forty), 0);
            Check.dueThrow("42 bytes", NO_NUMBER, () -> seen(x, false, new int[42]));
            Check.dueThrow("41 bytes", NO_NUMBER, () -> seen(x, false, new int[41]));
            Check.dueThrow("39 bytes", NO_NUMBER, () -> seen(x, false, new int[39]));
            Check.dueThrow("400 bytes", NO_NUMBER, () -> seen(x, false, new int[400]));
        });
        s.edge(36, "IllegalArgumentException: the TAPE is not that (none may be told), or the MINUTE is none.", () -> {
            ArchEnds x = Check.of(THREE);
            Check.due("none may be told", seen(x, false), 8);
            int[][] wrong = {{0}, {0, 1, 2}, {16, 1}, {255, 0}, {1, 2}, {1, 255}, {1, 1, 16, 0}, {1, 1, 2, 2}};
            for (int[] told : wrong) {
                Check.dueThrow("seen " + java.util.Arrays.toString(told), NO_NUMBER, () -> seen(x, false, told));
                Check.due("the tape is used up", x.end(1), false);
                Check.dueThrow("sure " + java.util.Arrays.toString(told), NO_NUMBER, () -> seen(x, true, told));
            }
            for (int minute : NO_MINUTES) {
                tell(x, 0, 1);
                Check.dueThrow("minute " + minute, NO_NUMBER, () -> x.seen(minute, false));
                Check.due("the tape is used up", x.end(1), false);
            }
            askedOfMinutes("sure", m -> x.seen(m, true));
            tell(x, 0, 0);
            Check.due("in a minute without showers", x.seen(10, false), 8);
        });
    }

    private static void ask(Sentences s) {
        s.edge(Sentences.TERMS, "ASK: the ACRE by which these are parted (wet in that MINUTE or not) so that the greater part is the least "
                + "(of several the least; none with fewer than two).", () -> {
            ArchEnds x = Check.of(THREE);
            int[][] want = {{0}, {4, 0, 1}, {8, 0, 1, 5, 0}, {-1, 0, 1, 5, 0, 8, 1}, {-1, 0, 1, 0, 0}, {8, 2, 1}, {4, 0, 1, 8, 1}, {0, 5, 1}};
            for (int[] w : want) {
                int[] told = java.util.Arrays.copyOfRange(w, 1, w.length);
                Check.due("ask by " + java.util.Arrays.toString(told), ask(x, told), w[0]);
            }
            Check.due("two sets are enough", ask(Check.of("shower 15 to 15 from 0 to 9")), 15);
            Check.due("one set alone", ask(new ArchEnds()), -1);
            ArchEnds y = Check.of("shower 3 to 3 from 0 to 9;shower 3 to 3 from 0 to 9;shower 9 to 9 from 0 to 9");
            Check.due("9 parts into halves, 3 does not", ask(y), 9);
            y.tell(2, 1);
            Check.due("3 of 4 wet 3", ask(y), 3);
        });
        s.edge(37, "Uses the TAPE up: ASK (the TAPE likewise); NONE. IllegalArgumentException: the TAPE is not that, or the MINUTE is none.",
                () -> {
            ArchEnds x = Check.of(THREE);
            Check.due("ask", ask(x, 0, 1), 4);
            Check.due("the tape is used up", x.end(1), false);
            Check.due("40 bytes", ask(x, new int[40]), 2);
            int[][] wrong = {{0}, {16, 1}, {255, 0}, {1, 2}, {1, 255}, new int[41], new int[42]};
            for (int[] told : wrong) {
                Check.dueThrow("ask by " + told.length + " bytes", NO_NUMBER, () -> ask(x, told));
                Check.due("the tape is used up", x.end(1), false);
            }
            for (int minute : NO_MINUTES) {
                tell(x, 0, 1);
                Check.dueThrow("minute " + minute, NO_NUMBER, () -> x.ask(minute));
                Check.due("the tape is used up", x.end(1), false);
            }
            Check.due("no acre parts them: the least", x.ask(10), 0);
        });
    }

    // ---- spray, both, rests, row, dry, rich, clash

    private static void sprayAndBoth(Sentences s) {
        s.edge(Sentences.TERMS, "SPRAY in a MINUTE: ACRES that some SHOWER WETS and that are THE FOOT from no ACRE, as bits.", () -> {
            ArchEnds x = Check.of("shower 0 to 15 from 0 to 99");
            int[][] want = {{0, 65535}, {1, 65535 & ~1023}, {36, 1 << 15}, {37, 0}, {42, 0}, {43, 65535}, {53, 65535}, {54, 0}, {59, 0}, {60, 1},
                {95, 63}, {96, 65535}, {100, 0}};
            for (int[] w : want) {
                Check.due("spray(" + w[0] + ")", x.spray(w[0]), w[1]);
            }
            ArchEnds y = Check.of("shower 9 to 10 from 1 to 1;shower 5 to 6 from 95 to 95");
            Check.due("9 is a foot, 10 is none", y.spray(1), 1 << 10);
            Check.due("6 is a foot, 5 is none", y.spray(95), 1 << 5);
            y.tell(0, 2);
            Check.due("of state 2", y.spray(1), 0);
        });
        s.edge(38, "SPRAY, as bits. IllegalArgumentException: the MINUTE is none.", () -> {
            ArchEnds x = Check.of(ALL_WET);
            Check.due("all", x.spray(48), 65535);
            Check.due("none", x.spray(42), 0);
            Check.due("without a shower", new ArchEnds().spray(48), 0);
            askedOfMinutes("spray", m -> x.spray(m));
        });
        s.edge(Sentences.TERMS, "BOTH of two ACRES: in how many of N MINUTES (1 to 96) from a told one on there is an ARCH for those who look "
                + "from the one and from the other.", () -> {
            ArchEnds x = Check.of("shower 2 to 5 from 1 to 20");
            int[][] want = {{8, 9, 0, 30, 18}, {9, 8, 0, 30, 18}, {8, 11, 0, 96, 6}, {8, 9, 0, 1, 0}, {8, 9, 0, 2, 1}, {8, 9, 1, 1, 1}, {8, 9, 18, 1, 1},
                {8, 9, 19, 1, 0}, {8, 9, 18, 96, 1}, {8, 1, 0, 96, 0}, {8, 12, 0, 96, 0}, {8, 9, 9999, 96, 0}};
            for (int[] w : want) {
                Check.due("both(" + w[0] + ", " + w[1] + ", " + w[2] + ", " + w[3] + ")", x.both(w[0], w[1], w[2], w[3]), w[4]);
            }
        });
        s.edge(39, "BOTH. IllegalArgumentException: both are one, or the MINUTE or N are none.", () -> {
            ArchEnds x = Check.of(ALL_WET);
            Check.dueThrow("both are one", NO_NUMBER, () -> x.both(8, 8, 0, 30));
            askedOfMinutes("both", m -> x.both(8, 9, m, 96));
            askedOfNs("both", n -> x.both(8, 9, 0, n));
            askedOfAcres("both", a -> x.both(a, 9, 1, 1));
            askedOfAcres("both, the other", a -> x.both(9, a, 1, 1));
            Check.dueThrow("neither is an acre", NO_SUCH, () -> x.both(16, 16, 0, 1));
            Check.dueThrow("none of all", NO_SUCH, () -> x.both(-1, 16, -1, 0));
        });
    }

    private static void rests(Sentences s) {
        s.edge(Sentences.TERMS, "RESTS of two BROKERS and two DEEDS (a, b): each buys a (0) or b (1), unseen by the other one: alone with it one "
                + "has HOPE of it, both with one each the half of HOPE (rounded down), less what it COSTS that one: choices (2 times the first "
                + "one's and the other one's) from which neither would have more by its other one alone: as bits.", () -> {
            String brokers = ";broker 0 at 0 pace 1;broker 0 at 0 pace 1;";
            ArchEnds x = Check.of("shower 3 to 3 from 0 to 99;shower 4 to 4 from 0 to 99 chance 50" + brokers
                    + "deed 3 from 0 to 95 price 0;deed 4 from 0 to 95 price 0;deed 4 from 13 to 17 price 0;deed 3 from 0 to 95 price 1;"
                    + "deed 3 from 0 to 95 price 0");
            Check.due("600 and 300: half of 600 is as good", x.rests(0, 1, 0, 1), 7);
            Check.due("turned round", x.rests(0, 1, 1, 0), 14);
            Check.due("600 and 250", x.rests(0, 1, 0, 2), 1);
            Check.due("599 and 300: half less 1 is not as good", x.rests(0, 1, 3, 1), 6);
            Check.due("600 and 600: one each", x.rests(0, 1, 0, 4), 6);
            ArchEnds y = Check.of("shower 3 to 3 from 7 to 7 chance 3;shower 4 to 4 from 13 to 13 chance 1" + brokers
                    + "deed 3 from 7 to 7 price 0;deed 4 from 13 to 13 price 0;deed 5 from 0 to 1 price 0;deed 5 from 0 to 1 price 0");
            Check.due("half of 3 is 1, as good as 1", y.rests(0, 1, 0, 1), 7);
            Check.due("nothing and nothing", y.rests(0, 1, 2, 3), 15);
            Check.due("half of 1 is 0, as good as nothing", y.rests(0, 1, 1, 2), 7);
            Check.law(x, "cost 99 if who < 1 and acre < 4;".repeat(4) + "cost 99 if who < 1 and acre < 4");
            Check.due("dear for the first one alone", x.rests(0, 1, 0, 1), 4);
            Check.due("dear for the other one alone", x.rests(1, 0, 0, 1), 2);
        });
        s.edge(40, "RESTS, as bits. IllegalArgumentException: both BROKERS, or both DEEDS, are one.", () -> {
            ArchEnds x = Check.of("broker 0 at 0 pace 1;broker 0 at 0 pace 1;deed 3 from 0 to 95 price 9;deed 4 from 0 to 95 price 0");
            Check.due("b is cheaper", x.rests(0, 1, 0, 1), 8);
            Check.due("a is cheaper", x.rests(0, 1, 1, 0), 1);
            Check.dueThrow("both brokers are one", NO_NUMBER, () -> x.rests(1, 1, 0, 1));
            Check.dueThrow("both deeds are one", NO_NUMBER, () -> x.rests(0, 1, 1, 1));
            Check.dueThrow("both", NO_NUMBER, () -> x.rests(0, 0, 0, 0));
            for (int i : new int[] {2, 8, -1, MIN, MAX}) {
                Check.dueThrow("rests(" + i + ", 0, 0, 1)", NO_SUCH, () -> x.rests(i, 0, 0, 1));
                Check.dueThrow("rests(0, " + i + ", 0, 1)", NO_SUCH, () -> x.rests(0, i, 0, 1));
                Check.dueThrow("rests(0, 1, " + i + ", 1)", NO_SUCH, () -> x.rests(0, 1, i, 1));
                Check.dueThrow("rests(0, 1, 0, " + i + ")", NO_SUCH, () -> x.rests(0, 1, 0, i));
                Check.dueThrow("rests(" + i + ", " + i + ", 0, 0)", NO_SUCH, () -> x.rests(i, i, 0, 0));
                Check.dueThrow("rests(0, 0, " + i + ", " + i + ")", NO_SUCH, () -> x.rests(0, 0, i, i));
            }
        });
    }

    private static void row(Sentences s) {
        s.edge(Sentences.TERMS, "ROW of weddings by D (1 to 20): of 96 MINUTES from a told one on the first one with an ARCH from ROAD, then the "
                + "first one with such that is D later at least, and so on: how many; the k-th; none.", () -> {
            ArchEnds x = Check.of("shower 2 to 2 from 1 to 6;shower 0 to 15 from 97 to 97;shower 9 to 9 from 60 to 60");
            int[][] want = {{1, 0, 7}, {5, 0, 3}, {6, 0, 2}, {4, 0, 3}, {2, 0, 4}, {20, 0, 2}, {1, 1, 7}, {1, 2, 7}, {1, 7, 2}, {1, 61, 1}, {1, 97, 1},
                {1, 98, 0}, {1, 9999, 0}};
            for (int[] w : want) {
                Check.due("row(" + w[0] + ", " + w[1] + ", -1)", x.row(w[0], w[1], -1), w[2]);
            }
            int[] row = {1, 6, 60, -1};
            for (int k = 0; k < row.length; k++) {
                Check.due("row(5, 0, " + k + ")", x.row(5, 0, k), row[k]);
            }
            Check.due("the 96th minute is in", x.row(20, 2, 2), 97);
            Check.due("the 97th is not", x.row(20, 1, 2), -1);
            Check.due("by 1 all of a day", Check.of(ALL_WET).row(1, 0, -1), 84);
            Check.due("by 20", Check.of(ALL_WET).row(20, 0, -1), 5);
            x.road(1);
            Check.due("from road 1", x.row(1, 0, -1), 0);
        });
        s.edge(41, "ROW: how many (k NONE), or the k-th; NONE. IllegalArgumentException: D or the MINUTE are none.", () -> {
            ArchEnds x = Check.of(ALL_WET);
            Check.due("how many", x.row(20, 0, -1), 5);
            Check.due("the last", x.row(1, 0, 83), 95);
            for (int k : new int[] {84, 96, 1000, -2, MIN, MAX}) {
                Check.due("row(1, 0, " + k + ")", x.row(1, 0, k), -1);
            }
            Check.due("none at all", new ArchEnds().row(1, 0, -1), 0);
            Check.due("no first", new ArchEnds().row(1, 0, 0), -1);
            askedOfMinutes("row", m -> x.row(1, m, 0));
            Check.due("D 1 is answered", x.row(1, 0, 0), 1);
            Check.due("D 20 is answered", x.row(20, 0, 0), 1);
            for (int d : new int[] {0, -1, 21, MIN, MAX}) {
                Check.dueThrow("row(" + d + ", 0, -1)", NO_NUMBER, () -> x.row(d, 0, -1));
                Check.dueThrow("row(" + d + ", 0, 0)", NO_NUMBER, () -> x.row(d, 0, 0));
            }
        });
    }

    private static void dryAndRich(Sentences s) {
        s.edge(Sentences.TERMS, "DRY: the first N (0 to 200) for which the last MINUTE of each SHOWER (but those of STATE 2) is below MINUTE and N "
                + "together; none.", () -> {
            ArchEnds x = Check.of("shower 2 to 5 from 1 to 20;shower 0 to 15 from 60 to 199");
            Check.due("200", x.dry(), 200);
            x.tell(1, 2);
            Check.due("but those of state 2", x.dry(), 21);
            x.minutes(20);
            Check.due("its last minute", x.dry(), 1);
            x.minutes(1);
            Check.due("over", x.dry(), 0);
            x.minutes(50);
            Check.due("long over", x.dry(), 0);
            ArchEnds y = Check.of("shower 0 to 15 from 60 to 200");
            Check.due("201 is none", y.dry(), -1);
            y.minutes(1);
            Check.due("200 then", y.dry(), 200);
        });
        s.edge(42, "DRY; NONE.", () -> {
            Check.due("without showers", new ArchEnds().dry(), 0);
            Check.due("one of minute 0 alone", Check.of("shower 0 to 0 from 0 to 0").dry(), 1);
            Check.due("none", Check.of(ALL_WET).dry(), -1);
            Check.due("all over", Check.of("shower 0 to 0 from 0 to 998;minute 999").dry(), 0);
        });
        s.edge(Sentences.TERMS, "WORTH of a BROKER: PURSE and PRICES of its DEEDS, together. RICH: the BROKER of the most WORTH (of several the least; none).",
                () -> {
            ArchEnds x = Check.of("broker 50 at 0 pace 1;broker 60 at 0 pace 1;broker 60 at 0 pace 1;deed 3 from 1 to 12 price 10;"
                    + "deed 3 from 1 to 12 price 20");
            Check.due("of two the least", x.rich(), 1);
            x.buy(1, 0);
            Check.due("a price is worth its price", x.rich(), 1);
            Check.law(x, "cost 1");
            x.buy(1, 1);
            Check.due("worth less than it cost", x.broker(1, 5), 59);
            Check.due("the other one then", x.rich(), 2);
            Check.due("worth without deeds", x.broker(2, 5), 60);
        });
        s.edge(43, "RICH; NONE.", () -> {
            Check.due("none", new ArchEnds().rich(), -1);
            Check.due("a poor one alone", Check.of("broker 0 at 0 pace 1").rich(), 0);
            Check.due("all alike", Check.of("broker 0 at 0 pace 1;broker 0 at 0 pace 1").rich(), 0);
            Check.due("the fifth", Check.of("broker 5 at 0 pace 1;".repeat(4) + "broker 6 at 0 pace 1").rich(), 4);
        });
        s.edge(Sentences.TERMS, "CLASH: pairs of DEEDS for one ACRE with a MINUTE in common: how many.", () -> {
            String first = "deed 3 from 5 to 12 price 1;";
            String[] others = {"3 from 12 to 20", "3 from 13 to 20", "3 from 0 to 5", "3 from 0 to 4", "3 from 6 to 7", "3 from 0 to 99", "4 from 5 to 12",
                "3 from 5 to 12"};
            int[] want = {1, 0, 1, 0, 1, 1, 0, 1};
            for (int i = 0; i < others.length; i++) {
                Check.due("clash with " + others[i], Check.of(first + "deed " + others[i] + " price 1").clash(), want[i]);
                Check.due("turned round", Check.of("deed " + others[i] + " price 1;" + first + "road 1").clash(), want[i]);
            }
        });
        s.edge(44, "CLASH.", () -> {
            String deed = "deed 3 from 5 to 12 price 1;";
            Check.due("no deeds", new ArchEnds().clash(), 0);
            Check.due("one deed", Check.of(deed + "road 1").clash(), 0);
            Check.due("three", Check.of(deed.repeat(3) + "road 1").clash(), 3);
            Check.due("eight", Check.of(deed.repeat(8) + "road 1").clash(), 28);
        });
    }
}
