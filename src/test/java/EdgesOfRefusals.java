import java.util.ArrayList;
import java.util.List;
import java.util.NoSuchElementException;

/** The paragraph ahead of promise 1: which of several exceptions is thrown, and what a call that throws changes. */
final class EdgesOfRefusals {
    private static final Class<IndexOutOfBoundsException> NO_SUCH = IndexOutOfBoundsException.class;
    private static final Class<IllegalArgumentException> NO_NUMBER = IllegalArgumentException.class;
    private static final Class<IllegalStateException> CANNOT_BE = IllegalStateException.class;
    private static final Class<NoSuchElementException> NO_WHAT = NoSuchElementException.class;

    private record Refused(String name, Class<? extends RuntimeException> by, Check.Call call) {
    }

    private EdgesOfRefusals() {
    }

    /** Deed 0 is broker 0's and insured, deed 1 is nobody's and dear, deed 2 is broker 1's, whose purse is 3. */
    private static ArchEnds county() {
        ArchEnds x = Check.of("broker 50 at 0 pace 2;broker 8 at 5 pace 1;deed 4 from 3 to 40 price 20;deed 8 from 0 to 9 price 200;"
                + "deed 9 from 0 to 9 price 5;wage 10;shower 0 to 15 from 0 to 999 chance 90");
        Check.law(x, "bring 2 if wet");
        x.buy(0, 0);
        x.insure(0);
        x.buy(1, 2);
        x.minutes(15);
        return x;
    }

    static void run(Sentences s) {
        s.edge(Sentences.TERMS, "Of several exceptions the one told first is thrown", () -> {
            ArchEnds x = county();
            for (Refused r : severalAtOnce(x)) {
                Check.dueThrow(r.name(), r.by(), r.call());
            }
            ArchEnds y = new ArchEnds();
            for (int i = 0; i < 12; i++) {
                Check.county(y, "");
            }
            Check.tape(y, "x");
            Check.dueThrow("wrong, and the 13th", NO_NUMBER, () -> y.county());
        });
        s.edge(Sentences.TERMS, "a call that throws changes nothing but the TAPE, where it is used up.", () -> {
            ArchEnds x = county();
            String all = EdgesOfActs.allOf(x);
            x.image();
            x.road(9);
            EdgesOfTexts.countyFault(x, "road 1;", 7);
            String then = EdgesOfActs.allOf(x);
            int acts = x.count(11);
            x.feed(1, 2, 3, 4, 5);
            List<Refused> calls = new ArrayList<>(severalAtOnce(x));
            calls.addAll(noSuch(x));
            calls.addAll(noNumber(x));
            calls.addAll(cannotBe(x));
            calls.addAll(noWhat(x));
            for (Refused r : calls) {
                Check.dueThrow(r.name(), r.by(), r.call());
            }
            Check.due("nothing has changed", EdgesOfActs.allOf(x).equals(then), true);
            Check.due("acts", x.count(11), acts);
            Check.due("fault", x.fault(), 7);
            Check.due("the tape is as long", x.end(21), false);
            Check.due("the tape stays", x.end(20), true);
            x.undo();
            Check.due("the act is as it was", x.count(6), 8);
            x.back();
            Check.due("the image is as it was", EdgesOfActs.allOf(x).equals(all), true);
        });
        usedUp(s);
        s.edge(Sentences.TERMS, "IndexOutOfBoundsException: there is no such ACRE, SHOWER, BROKER, DEED.", () -> {
            for (Refused r : noSuch(county())) {
                Check.dueThrow(r.name(), r.by(), r.call());
            }
        });
        s.edge(Sentences.TERMS, "IllegalArgumentException: a number is none, or two are one.", () -> {
            for (Refused r : noNumber(county())) {
                Check.dueThrow(r.name(), r.by(), r.call());
            }
        });
        s.edge(Sentences.TERMS, "IllegalStateException: it cannot be.", () -> {
            for (Refused r : cannotBe(county())) {
                Check.dueThrow(r.name(), r.by(), r.call());
            }
        });
        s.edge(Sentences.TERMS, "Sets are bits; of none they count for nothing.", () -> {
            ArchEnds x = Check.of("broker 0 at 0 pace 1;deed 0 from 0 to 9 price 1");
            Check.due("deeds of a broker", x.broker(0, 4), 0);
            Check.due("deeds with an owner", x.count(9), 0);
            Check.due("wets", x.wets(0, 0), 0);
            Check.due("looks", x.looks(0, 1), 0);
            Check.due("deals", x.deals(0, false), 0);
            Check.due("deals bring", x.deals(0, true), 0);
            Check.due("sure", x.seen(0, true), 0);
            Check.due("spray", x.spray(0), 0);
            Check.tape(x, new byte[] {0, 1});
            Check.due("sure without a set", x.seen(0, true), 0);
        });
    }

    /** The calls that use the tape up, each by each of its exceptions. */
    private static void usedUp(Sentences s) {
        s.edge(Sentences.TERMS, "the TAPE, where it is used up", () -> {
            ArchEnds x = county();
            String all = EdgesOfActs.allOf(x);
            int acts = x.count(11);
            List<Refused> calls = new ArrayList<>();
            calls.add(new Refused("county()", NO_NUMBER, () -> x.county()));
            calls.add(new Refused("law()", NO_NUMBER, () -> x.law()));
            calls.add(new Refused("send(-1)", NO_NUMBER, () -> x.send(-1)));
            calls.add(new Refused("send(0)", NO_NUMBER, () -> x.send(0)));
            calls.add(new Refused("send(2)", NO_SUCH, () -> x.send(2)));
            calls.add(new Refused("seen(0, false)", NO_NUMBER, () -> x.seen(0, false)));
            calls.add(new Refused("seen(-1, true)", NO_NUMBER, () -> x.seen(-1, true)));
            calls.add(new Refused("ask(0)", NO_NUMBER, () -> x.ask(0)));
            calls.add(new Refused("ask(10000)", NO_NUMBER, () -> x.ask(10000)));
            for (Refused r : calls) {
                x.feed(-1, -1, -1, -1, -1);
                Check.dueThrow(r.name(), r.by(), r.call());
                Check.due("the tape is used up by " + r.name(), x.end(1), false);
            }
            Check.due("nothing else has changed", EdgesOfActs.allOf(x).equals(all), true);
            Check.due("acts", x.count(11), acts);
            for (int i = 1; i < 12; i++) {
                Check.county(x, "");
            }
            Check.tape(x, "road 1");
            Check.dueThrow("a 13th text", UnsupportedOperationException.class, () -> x.county());
            Check.due("the tape is used up by a 13th text", x.end(1), false);
            Check.due("road", x.count(6), 8);
        });
    }

    private static List<Refused> severalAtOnce(ArchEnds x) {
        List<Refused> calls = new ArrayList<>();
        calls.add(new Refused("shower(1, 7)", NO_SUCH, () -> x.shower(1, 7)));
        calls.add(new Refused("broker(2, 6)", NO_SUCH, () -> x.broker(2, 6)));
        calls.add(new Refused("deed(3, 7)", NO_SUCH, () -> x.deed(3, 7)));
        calls.add(new Refused("brings(2, 0, -1)", NO_SUCH, () -> x.brings(2, 0, -1)));
        calls.add(new Refused("brings(0, 3, -1)", NO_SUCH, () -> x.brings(0, 3, -1)));
        calls.add(new Refused("sell(3, 0)", NO_SUCH, () -> x.sell(3, 0)));
        calls.add(new Refused("sell(2, 1): its owner, whose purse is less", NO_NUMBER, () -> x.sell(2, 1)));
        calls.add(new Refused("go(2, 15)", NO_SUCH, () -> x.go(2, 15)));
        calls.add(new Refused("go(0, 16)", NO_SUCH, () -> x.go(0, 16)));
        calls.add(new Refused("tell(1, 3)", NO_SUCH, () -> x.tell(1, 3)));
        calls.add(new Refused("foot(16, -1)", NO_SUCH, () -> x.foot(16, -1)));
        calls.add(new Refused("arch(16, -1)", NO_SUCH, () -> x.arch(16, -1) ? 1 : 0));
        calls.add(new Refused("wets(16, -1)", NO_SUCH, () -> x.wets(16, -1)));
        calls.add(new Refused("looks(16, -1)", NO_SUCH, () -> x.looks(16, -1)));
        calls.add(new Refused("stands(16, -1, 0)", NO_SUCH, () -> x.stands(16, -1, 0)));
        calls.add(new Refused("first(16, -1)", NO_SUCH, () -> x.first(16, -1)));
        calls.add(new Refused("site(16, -1, 0)", NO_SUCH, () -> x.site(16, -1, 0)));
        calls.add(new Refused("odds(16, -1)", NO_SUCH, () -> x.odds(16, -1)));
        calls.add(new Refused("meet(2, 2)", NO_SUCH, () -> x.meet(2, 2)));
        calls.add(new Refused("both(16, 16, -1, 0)", NO_SUCH, () -> x.both(16, 16, -1, 0)));
        calls.add(new Refused("rests(2, 2, 0, 0)", NO_SUCH, () -> x.rests(2, 2, 0, 0)));
        calls.add(new Refused("rests(0, 0, 3, 3)", NO_SUCH, () -> x.rests(0, 0, 3, 3)));
        calls.add(new Refused("rests(0, 0, 0, 3)", NO_SUCH, () -> x.rests(0, 0, 0, 3)));
        calls.add(new Refused("ahead(2, 201)", NO_SUCH, () -> x.ahead(2, 201)));
        return calls;
    }

    private static List<Refused> noSuch(ArchEnds x) {
        List<Refused> calls = new ArrayList<>();
        for (int side = 0; side < 2; side++) {
            int acre = side == 0 ? -1 : 16;
            int shower = side == 0 ? -1 : 1;
            int broker = side == 0 ? -1 : 2;
            int deed = side == 0 ? -1 : 3;
            calls.add(new Refused("shower " + shower, NO_SUCH, () -> x.shower(shower, 0)));
            calls.add(new Refused("tell " + shower, NO_SUCH, () -> x.tell(shower, 1)));
            calls.add(new Refused("broker " + broker, NO_SUCH, () -> x.broker(broker, 0)));
            calls.add(new Refused("costs " + broker, NO_SUCH, () -> x.costs(broker, 0)));
            calls.add(new Refused("brings " + broker, NO_SUCH, () -> x.brings(broker, 0, 0)));
            calls.add(new Refused("buy by " + broker, NO_SUCH, () -> x.buy(broker, 1)));
            calls.add(new Refused("sell to " + broker, NO_SUCH, () -> x.sell(0, broker)));
            calls.add(new Refused("go " + broker, NO_SUCH, () -> x.go(broker, 0)));
            calls.add(new Refused("gain " + broker, NO_SUCH, () -> x.gain(broker, 0)));
            calls.add(new Refused("deals " + broker, NO_SUCH, () -> x.deals(broker, true)));
            calls.add(new Refused("meet " + broker, NO_SUCH, () -> x.meet(broker, 0)));
            calls.add(new Refused("meet other " + broker, NO_SUCH, () -> x.meet(0, broker)));
            calls.add(new Refused("rests " + broker, NO_SUCH, () -> x.rests(broker, 0, 0, 1)));
            calls.add(new Refused("rests other " + broker, NO_SUCH, () -> x.rests(0, broker, 0, 1)));
            calls.add(new Refused("ahead " + broker, NO_SUCH, () -> x.ahead(broker, 0)));
            calls.add(new Refused("deed " + deed, NO_SUCH, () -> x.deed(deed, 0)));
            calls.add(new Refused("costs deed " + deed, NO_SUCH, () -> x.costs(0, deed)));
            calls.add(new Refused("brings deed " + deed, NO_SUCH, () -> x.brings(0, deed, 0)));
            calls.add(new Refused("buy " + deed, NO_SUCH, () -> x.buy(0, deed)));
            calls.add(new Refused("sell " + deed, NO_SUCH, () -> x.sell(deed, 0)));
            calls.add(new Refused("insure " + deed, NO_SUCH, () -> x.insure(deed)));
            calls.add(new Refused("hope " + deed, NO_SUCH, () -> x.hope(deed)));
            calls.add(new Refused("gain deed " + deed, NO_SUCH, () -> x.gain(0, deed)));
            calls.add(new Refused("rests a " + deed, NO_SUCH, () -> x.rests(0, 1, deed, 1)));
            calls.add(new Refused("rests b " + deed, NO_SUCH, () -> x.rests(0, 1, 0, deed)));
            calls.add(new Refused("go to " + acre, NO_SUCH, () -> x.go(0, acre)));
            calls.add(new Refused("road " + acre, NO_SUCH, () -> x.road(acre)));
            calls.add(new Refused("foot " + acre, NO_SUCH, () -> x.foot(acre, 0)));
            calls.add(new Refused("arch " + acre, NO_SUCH, () -> x.arch(acre, 0) ? 1 : 0));
            calls.add(new Refused("wets " + acre, NO_SUCH, () -> x.wets(acre, 0)));
            calls.add(new Refused("looks " + acre, NO_SUCH, () -> x.looks(acre, 0)));
            calls.add(new Refused("stands " + acre, NO_SUCH, () -> x.stands(acre, 0, 1)));
            calls.add(new Refused("first " + acre, NO_SUCH, () -> x.first(acre, 0)));
            calls.add(new Refused("site " + acre, NO_SUCH, () -> x.site(acre, 0, 1)));
            calls.add(new Refused("odds " + acre, NO_SUCH, () -> x.odds(acre, 0)));
            calls.add(new Refused("rush " + acre, NO_SUCH, () -> x.rush(acre)));
            calls.add(new Refused("both " + acre, NO_SUCH, () -> x.both(acre, 0, 0, 1)));
            calls.add(new Refused("both other " + acre, NO_SUCH, () -> x.both(0, acre, 0, 1)));
            calls.add(new Refused("led " + acre, NO_SUCH, () -> x.led(acre, false)));
        }
        return calls;
    }

    private static List<Refused> noNumber(ArchEnds x) {
        List<Refused> calls = new ArrayList<>();
        for (int m : new int[] {-1, 10000}) {
            calls.add(new Refused("brings in " + m, NO_NUMBER, () -> x.brings(0, 0, m)));
            calls.add(new Refused("sun in " + m, NO_NUMBER, () -> x.sun(m)));
            calls.add(new Refused("reach in " + m, NO_NUMBER, () -> x.reach(m)));
            calls.add(new Refused("foot in " + m, NO_NUMBER, () -> x.foot(0, m)));
            calls.add(new Refused("arch in " + m, NO_NUMBER, () -> x.arch(0, m) ? 1 : 0));
            calls.add(new Refused("wets in " + m, NO_NUMBER, () -> x.wets(0, m)));
            calls.add(new Refused("looks in " + m, NO_NUMBER, () -> x.looks(0, m)));
            calls.add(new Refused("stands in " + m, NO_NUMBER, () -> x.stands(0, m, 1)));
            calls.add(new Refused("best in " + m, NO_NUMBER, () -> x.best(m, 1)));
            calls.add(new Refused("first in " + m, NO_NUMBER, () -> x.first(0, m)));
            calls.add(new Refused("site in " + m, NO_NUMBER, () -> x.site(0, m, 1)));
            calls.add(new Refused("odds in " + m, NO_NUMBER, () -> x.odds(0, m)));
            calls.add(new Refused("spray in " + m, NO_NUMBER, () -> x.spray(m)));
            calls.add(new Refused("both in " + m, NO_NUMBER, () -> x.both(0, 1, m, 1)));
            calls.add(new Refused("row in " + m, NO_NUMBER, () -> x.row(1, m, 0)));
        }
        for (int n : new int[] {0, 97}) {
            calls.add(new Refused("stands of " + n, NO_NUMBER, () -> x.stands(0, 0, n)));
            calls.add(new Refused("best of " + n, NO_NUMBER, () -> x.best(0, n)));
            calls.add(new Refused("site of " + n, NO_NUMBER, () -> x.site(0, 0, n)));
            calls.add(new Refused("both of " + n, NO_NUMBER, () -> x.both(0, 1, 0, n)));
        }
        calls.add(new Refused("minutes(0)", NO_NUMBER, () -> x.minutes(0)));
        calls.add(new Refused("minutes(101)", NO_NUMBER, () -> x.minutes(101)));
        calls.add(new Refused("tell(0, -1)", NO_NUMBER, () -> x.tell(0, -1)));
        calls.add(new Refused("tell(0, 3)", NO_NUMBER, () -> x.tell(0, 3)));
        calls.add(new Refused("row(0, 0, 0)", NO_NUMBER, () -> x.row(0, 0, 0)));
        calls.add(new Refused("row(21, 0, 0)", NO_NUMBER, () -> x.row(21, 0, 0)));
        calls.add(new Refused("ahead(0, -1)", NO_NUMBER, () -> x.ahead(0, -1)));
        calls.add(new Refused("ahead(0, 201)", NO_NUMBER, () -> x.ahead(0, 201)));
        calls.add(new Refused("trial(-1)", NO_NUMBER, () -> x.trial(-1, false)));
        calls.add(new Refused("trial(101)", NO_NUMBER, () -> x.trial(101, true)));
        calls.add(new Refused("span(-1)", NO_NUMBER, () -> x.span(-1, false)));
        calls.add(new Refused("span(101)", NO_NUMBER, () -> x.span(101, true)));
        calls.add(new Refused("go(0, 3)", NO_NUMBER, () -> x.go(0, 3)));
        calls.add(new Refused("sell(0, 0)", NO_NUMBER, () -> x.sell(0, 0)));
        calls.add(new Refused("meet(1, 1)", NO_NUMBER, () -> x.meet(1, 1)));
        calls.add(new Refused("both(3, 3, 0, 1)", NO_NUMBER, () -> x.both(3, 3, 0, 1)));
        calls.add(new Refused("rests(1, 1, 0, 1)", NO_NUMBER, () -> x.rests(1, 1, 0, 1)));
        calls.add(new Refused("rests(0, 1, 2, 2)", NO_NUMBER, () -> x.rests(0, 1, 2, 2)));
        return calls;
    }

    private static List<Refused> cannotBe(ArchEnds x) {
        List<Refused> calls = new ArrayList<>();
        calls.add(new Refused("buy(0, 1): purse is less", CANNOT_BE, () -> x.buy(0, 1)));
        calls.add(new Refused("buy(0, 0): it is its own", CANNOT_BE, () -> x.buy(0, 0)));
        calls.add(new Refused("buy(0, 2): it has an owner", CANNOT_BE, () -> x.buy(0, 2)));
        calls.add(new Refused("sell(1, 0): it has none", CANNOT_BE, () -> x.sell(1, 0)));
        calls.add(new Refused("sell(0, 1): that purse is less", CANNOT_BE, () -> x.sell(0, 1)));
        calls.add(new Refused("insure(0): it is so", CANNOT_BE, () -> x.insure(0)));
        calls.add(new Refused("insure(1): it has none", CANNOT_BE, () -> x.insure(1)));
        calls.add(new Refused("insure(2): purse is less", CANNOT_BE, () -> x.insure(2)));
        return calls;
    }

    private static List<Refused> noWhat(ArchEnds x) {
        List<Refused> calls = new ArrayList<>();
        for (int what : new int[] {-1, 7}) {
            calls.add(new Refused("shower what " + what, NO_WHAT, () -> x.shower(0, what)));
            calls.add(new Refused("broker what " + what, NO_WHAT, () -> x.broker(0, what)));
            calls.add(new Refused("deed what " + what, NO_WHAT, () -> x.deed(0, what)));
            calls.add(new Refused("log what " + what, NO_WHAT, () -> x.log(0, what)));
        }
        return calls;
    }
}
