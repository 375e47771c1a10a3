import java.util.ArrayList;
import java.util.List;
import java.util.function.ToLongFunction;

/** What is refused changes nothing, and the first reason is told: every kind of refusal of every call. */
public final class FatherListsRefusals {
    private static final String TWELVE = "abcdefghijkl";
    private static final int[] FAR_OFF = {Checks.LEAST_INT, Checks.LEAST_INT + 1, -65536, -257, -256, -33, -32, -10,
        -8, -3, -2, 64, 100, 128, 255, 256, 257, 1024, 65536, 1 << 30, Checks.MOST_INT - 1, Checks.MOST_INT};

    public static void main(String[] args) {
        Checks.of("Refused, and nothing changes", FatherListsRefusals::nothingChanges);
        Checks.of("BAD (a number is not as told, or there is no such thing)", FatherListsRefusals::farOffNumbers);
        Checks.of("the first of these: BAD", FatherListsRefusals::badIsFirst);
        Checks.of("STATE (as told), FULL.", FatherListsRefusals::stateAndFull);
        Checks.end();
    }

    /** A call that is refused: its words, itself, and what it answers. */
    private static final class Refused {
        final String words;
        final ToLongFunction<FatherLists> call;
        final long answer;

        Refused(String words, ToLongFunction<FatherLists> call, long answer) {
            this.words = words;
            this.call = call;
            this.answer = answer;
        }
    }

    private static final List<Refused> ALL = new ArrayList<>();

    private static void add(String words, ToLongFunction<FatherLists> call, long answer) {
        ALL.add(new Refused(words, call, answer));
    }

    /** Nothing in it is as at first, so that what is lost or put back is seen. */
    private static FatherLists busy() {
        FatherLists x = Checks.underLaw("hold 8;far 2;weak 3;take 40;stand 70;", "abc", "cba", TWELVE, "mz");
        for (int h = 0; h < 5; h++) {
            Checks.houseOf(x, h, (char) ('a' + h), 20 + h);
        }
        x.date(0, 100);
        x.date(2, 101);
        x.date(25, 2000);
        x.keep(0);
        Checks.houseOf(x, 4, 'p', 41);
        x.say(0, Checks.n('q'));
        x.date(4, 7);
        x.link(0, 10);
        x.link(1, 40);
        x.worth(3, 0);
        Checks.typed(x, "hold 7");
        return x;
    }

    private static String whole(FatherLists x) {
        StringBuilder b = new StringBuilder(Checks.picture(x));
        b.append(" | ").append(x.type(';', 1)).append(' ').append(x.law()).append(' ').append(x.told(0));
        b.append(" | ").append(x.back(1)).append(' ').append(x.back(0)).append(" | ");
        return b.append(Checks.picture(x)).toString();
    }

    private static void nothingChanges() {
        ALL.clear();
        textsRefuse();
        housesRefuse();
        sidesRefuse();
        yearsRefuse();
        kindsRefuse();
        String before = whole(busy());
        for (Refused r : ALL) {
            FatherLists x = busy();
            Checks.due(r.words, r.call.applyAsLong(x), r.answer);
            Checks.dueText("behind " + r.words, whole(x), before);
        }
    }

    private static void textsRefuse() {
        add("type, n = 0", x -> x.type('?', 0), Checks.BAD);
        add("type, n = 9", x -> x.type('?', 9), Checks.BAD);
        add("law at fault", x -> x.law(), -16);
        add("list at fault", x -> x.list(0), -14);
        add("list 4", x -> x.list(4), Checks.BAD);
        add("list -1", x -> x.list(-1), Checks.BAD);
        add("told 5", x -> x.told(5), Checks.BAD);
        add("told -1", x -> x.told(-1), Checks.BAD);
        add("name of list 4", x -> x.name(4, 0), Checks.BAD);
        add("name at place 12", x -> x.name(2, 12), Checks.BAD);
        add("name at place -2", x -> x.name(2, -2), Checks.BAD);
        add("place in list 4", x -> x.place(4, 0), Checks.BAD);
        add("place of 26", x -> x.place(0, 26), Checks.BAD);
    }

    private static void housesRefuse() {
        add("house 6", x -> x.house(6, 0, 1), Checks.BAD);
        add("house -1", x -> x.house(-1, 1, 1), Checks.BAD);
        add("house, what = 2", x -> x.house(0, 2, 1), Checks.BAD);
        add("house, what = -1", x -> x.house(0, -1, 1), Checks.BAD);
        add("strength 100", x -> x.house(0, 0, 100), Checks.BAD);
        add("strength -1", x -> x.house(0, 0, -1), Checks.BAD);
        add("strength NONE", x -> x.house(0, 0, Checks.NONE), Checks.BAD);
        add("claim 26", x -> x.house(0, 1, 26), Checks.BAD);
        add("claim -1", x -> x.house(0, 1, -1), Checks.BAD);
        add("held of 26", x -> x.held(26), Checks.BAD);
        add("held of NONE", x -> x.held(Checks.NONE), Checks.BAD);
        add("say list 4", x -> x.say(4, 20), Checks.BAD);
        add("say with 26", x -> x.say(0, 26), Checks.BAD);
        add("say with -1", x -> x.say(0, -1), Checks.BAD);
        add("say with one in it", x -> x.say(2, 3), Checks.STATE);
        add("said 3", x -> x.said(3), Checks.BAD);
        add("said -1", x -> x.said(-1), Checks.BAD);
        add("foretold of list 4", x -> x.foretold(4, 0, 99, 0), Checks.BAD);
        add("foretold of house 6", x -> x.foretold(0, 6, 99, 0), Checks.BAD);
        add("foretold of strength 100", x -> x.foretold(0, 0, 100, 0), Checks.BAD);
        add("foretold, what = 3", x -> x.foretold(0, 0, 99, 3), Checks.BAD);
    }

    private static void sidesRefuse() {
        add("both of list 4", x -> x.both(4, 0, 0), Checks.BAD);
        add("both with list 4", x -> x.both(0, 4, 0), Checks.BAD);
        add("both, what = 4", x -> x.both(0, 1, 4), Checks.BAD);
        add("orders of 0", x -> x.orders(0), Checks.BAD);
        add("orders of 16", x -> x.orders(16), Checks.BAD);
        add("orders of too many", x -> x.orders(12), Checks.STATE);
        add("quarrel of 0", x -> x.quarrel(0, 0), Checks.BAD);
        add("quarrel, what = 2", x -> x.quarrel(3, 2), Checks.BAD);
        add("quarrel of too many", x -> x.quarrel(15, 1), Checks.STATE);
        add("ahead of 16", x -> x.ahead(16, 0, 1), Checks.BAD);
        add("ahead of itself", x -> x.ahead(1, 0, 0), Checks.BAD);
        add("ahead of one that none has", x -> x.ahead(1, 0, 25), Checks.BAD);
        add("ahead in none", x -> x.ahead(6, 0, 1), Checks.STATE);
        add("ahead of too many", x -> x.ahead(15, 0, 1), Checks.STATE);
    }

    private static void yearsRefuse() {
        add("date of 26", x -> x.date(26, 5), Checks.BAD);
        add("date 2001", x -> x.date(0, 2001), Checks.BAD);
        add("date -1", x -> x.date(0, -1), Checks.BAD);
        add("link, what = 2", x -> x.link(2, 20), Checks.BAD);
        add("low 0", x -> x.link(0, 0), Checks.BAD);
        add("low above high", x -> x.link(0, 41), Checks.BAD);
        add("high 61", x -> x.link(1, 61), Checks.BAD);
        add("high below low", x -> x.link(1, 9), Checks.BAD);
        add("span of list 4", x -> x.span(4, 0, 0), Checks.NO);
        add("span of place 12", x -> x.span(2, 12, 0), Checks.NO);
        add("span, what = 2", x -> x.span(3, 0, 2), Checks.NO);
        add("span of dates that can't be", x -> x.span(2, 0, 0), Checks.NO);
        add("lost of list 4", x -> x.lost(4), Checks.BAD);
        add("lost by none", x -> x.lost(2), Checks.STATE);
        add("court by 0", x -> x.court(0, 0, 1), Checks.NO);
        add("court of house 6", x -> x.court(1, 6, 1), Checks.NO);
        add("court of one without a claim", x -> x.court(1, 0, 5), Checks.NO);
    }

    private static void kindsRefuse() {
        add("worth of kind 6", x -> x.worth(6, 0), Checks.BAD);
        add("worth of kind -1", x -> x.worth(-1, 0), Checks.BAD);
        for (int k = 0; k < 6; k++) {
            int kind = k;
            add("worth of kind " + k + ", of 26", x -> x.worth(kind, 26), Checks.BAD);
        }
        add("keep 2", x -> x.keep(2), Checks.BAD);
        add("keep -1", x -> x.keep(-1), Checks.BAD);
        add("back 2", x -> x.back(2), Checks.BAD);
        add("back -1", x -> x.back(-1), Checks.BAD);
        add("back to none", x -> x.back(1), Checks.STATE);
        add("count 4", x -> x.count(4), Checks.BAD);
        add("count -1", x -> x.count(-1), Checks.BAD);
    }

    private static void farOffNumbers() {
        for (int v : FAR_OFF) {
            FatherLists x = busy();
            String before = whole(busy());
            Checks.due("type, n = " + v, x.type(0, v), Checks.BAD);
            Checks.due("list " + v, x.list(v), Checks.BAD);
            Checks.due("told " + v, x.told(v), Checks.BAD);
            Checks.due("name " + v, x.name(v, 0), Checks.BAD);
            Checks.due("name at " + v, x.name(0, v), Checks.BAD);
            Checks.due("place in " + v, x.place(v, 0), Checks.BAD);
            Checks.due("place of " + v, x.place(0, v), Checks.BAD);
            Checks.due("house " + v, x.house(v, 0, 0), Checks.BAD);
            Checks.due("house, what = " + v, x.house(0, v, 0), Checks.BAD);
            Checks.due("claim " + v, x.house(0, 1, v), Checks.BAD);
            Checks.due("held of " + v, x.held(v), Checks.BAD);
            Checks.due("say " + v, x.say(v, 20), Checks.BAD);
            Checks.due("say with " + v, x.say(0, v), Checks.BAD);
            Checks.due("said " + v, x.said(v), Checks.BAD);
            Checks.due("foretold of " + v, x.foretold(v, 0, 0, 0), Checks.BAD);
            Checks.due("foretold of house " + v, x.foretold(0, v, 0, 0), Checks.BAD);
            Checks.due("foretold, what = " + v, x.foretold(0, 0, 0, v), Checks.BAD);
            Checks.due("both of " + v, x.both(v, 0, 0), Checks.BAD);
            Checks.due("both with " + v, x.both(0, v, 0), Checks.BAD);
            Checks.due("both, what = " + v, x.both(0, 0, v), Checks.BAD);
            Checks.due("orders of " + v, x.orders(v), Checks.BAD);
            Checks.due("quarrel of " + v, x.quarrel(v, 0), Checks.BAD);
            Checks.due("quarrel, what = " + v, x.quarrel(1, v), Checks.BAD);
            Checks.due("ahead by " + v, x.ahead(v, 0, 1), Checks.BAD);
            Checks.due("ahead of " + v, x.ahead(2, v, 1), Checks.BAD);
            Checks.due("ahead against " + v, x.ahead(2, 1, v), Checks.BAD);
            Checks.due("date of " + v, x.date(v, 0), Checks.BAD);
            Checks.due("link, what = " + v, x.link(v, 20), Checks.BAD);
            Checks.due("low " + v, x.link(0, v), Checks.BAD);
            Checks.due("high " + v, x.link(1, v), Checks.BAD);
            Checks.due("span of " + v, x.span(v, 0, 0), Checks.NO);
            Checks.due("span at " + v, x.span(3, v, 0), Checks.NO);
            Checks.due("span, what = " + v, x.span(3, 0, v), Checks.NO);
            Checks.due("lost of " + v, x.lost(v), Checks.BAD);
            Checks.due("court by " + v, x.court(v, 0, 1), Checks.NO);
            Checks.due("court of " + v, x.court(1, v, 0), Checks.NO);
            Checks.due("court against " + v, x.court(1, 0, v), Checks.NO);
            Checks.due("worth of kind " + v, x.worth(v, 0), Checks.BAD);
            Checks.due("worth of " + v, x.worth(0, v), Checks.BAD);
            Checks.due("keep " + v, x.keep(v), Checks.BAD);
            Checks.due("back " + v, x.back(v), Checks.BAD);
            Checks.due("count " + v, x.count(v), Checks.BAD);
            if (v < 0 || v > 99) {
                Checks.due("strength " + v, x.house(0, 0, v), Checks.BAD);
                Checks.due("foretold of strength " + v, x.foretold(0, 0, v, 0), Checks.BAD);
            }
            if (v < 0 || v > 2000) {
                Checks.due("year " + v, x.date(0, v), Checks.BAD);
            }
            Checks.dueText("nothing changed by " + v, whole(x), before);
        }
    }

    private static void badIsFirst() {
        FatherLists x = busy();
        Checks.typed(x, "?".repeat(194));
        Checks.due("the text is full", x.count(1), 200);
        Checks.due("type: ahead of FULL", x.type(0, 9), Checks.BAD);
        Checks.due("type: ahead of FULL", x.type(0, 0), Checks.BAD);
        Checks.due("list: ahead of a fault", x.list(4), Checks.BAD);
        Checks.due("back: ahead of STATE", x.back(2), Checks.BAD);
        Checks.due("quarrel: ahead of STATE", x.quarrel(15, 2), Checks.BAD);
        Checks.due("quarrel: ahead of STATE", x.quarrel(15, -1), Checks.BAD);
        Checks.due("ahead: ahead of too many", x.ahead(15, 5, 5), Checks.BAD);
        Checks.due("ahead: ahead of too many", x.ahead(15, 5, 26), Checks.BAD);
        Checks.due("ahead: ahead of too many", x.ahead(15, 5, 20), Checks.BAD);
        Checks.due("ahead: ahead of none", x.ahead(6, 5, 5), Checks.BAD);
        Checks.due("ahead: ahead of none", x.ahead(6, 25, 5), Checks.BAD);
        Checks.due("say: a list that is not there, a name that is in others", x.say(4, 0), Checks.BAD);
        Checks.due("lost: a list that is not there", x.lost(4), Checks.BAD);
    }

    private static void stateAndFull() {
        FatherLists x = busy();
        Checks.due("say: the name is in it", x.say(2, 11), Checks.STATE);
        Checks.due("orders: more than 12 names", x.orders(15), Checks.STATE);
        Checks.due("quarrel: more than 12 names", x.quarrel(15, 0), Checks.STATE);
        Checks.due("ahead: more than 12 names", x.ahead(15, 0, 1), Checks.STATE);
        Checks.due("ahead: there are none", x.ahead(6, 0, 1), Checks.STATE);
        Checks.due("lost: by no number", x.lost(2), Checks.STATE);
        Checks.due("back: none was kept", x.back(1), Checks.STATE);
        Checks.typed(x, "?".repeat(190));
        Checks.due("type: four are left", x.type(0, 5), Checks.FULL);
        Checks.due("type: four are left", x.type(0, 4), 200);
        Checks.due("type: none is left", x.type(0, 1), Checks.FULL);
    }
}
