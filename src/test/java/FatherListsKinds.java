/** Section 4 of the document from kinds on, promises 1 and 23 to 27, sentence by sentence. */
public final class FatherListsKinds {
    private static final String TWELVE = "abcdefghijkl";

    public static void main(String[] args) {
        Checks.of("public static final int BAD = -1, STATE = -2, FULL = -3, NONE = -9;", FatherListsKinds::constants);
        Checks.of("An object is used for at most 512 calls after it has been made", FatherListsKinds::calls);
        Checks.of("`FatherLists()`: As told.", FatherListsKinds::newObject);
        Checks.of("KINDS are over one another: 0 NAME; 1 CLAIMED, 2 JOINED, 4 DATED (each under NAME); "
            + "3 STOOD (under JOINED); 5 FAR (under DATED).", FatherListsKinds::kinds);
        Checks.of("\"up\" is what the KIND above does", FatherListsKinds::up);
        Checks.of("(numbers in brackets are added to THE TRACE, 0 at first, as often as worth() asks that body;",
            FatherListsKinds::trace);
        Checks.of("NAME in how many LISTS it is (1).", FatherListsKinds::name);
        Checks.of("CLAIMED up, and its HELD (10).", FatherListsKinds::claimed);
        Checks.of("JOINED up, and twice how many HOUSES go by it (100).", FatherListsKinds::joined);
        Checks.of("STOOD up times up (1000).", FatherListsKinds::stood);
        Checks.of("DATED up, and 7 with a DATE (10000).", FatherListsKinds::dated);
        Checks.of("FAR half of up, rounded down (100000).", FatherListsKinds::far);
        Checks.of("IMAGES 0, 1 keep LISTS, HOUSES, DATES; nothing else.", FatherListsKinds::images);
        Checks.of("`int worth(int kind, int name)`: WORTH. BAD.", FatherListsKinds::worth);
        Checks.of("An IMAGE is kept: how many NAMES all LISTS have together. BAD.", FatherListsKinds::keep);
        Checks.of("All of that becomes as an IMAGE has it: how many NAMES.", FatherListsKinds::back);
        Checks.of("BAD; STATE: none was kept.", FatherListsKinds::noneWasKept);
        Checks.of("0 NAMES of all LISTS together", FatherListsKinds::countNames);
        Checks.of("1 bytes of THE TEXT", FatherListsKinds::countBytes);
        Checks.of("2 HOUSES that go by a NAME", FatherListsKinds::countHouses);
        Checks.of("3 NAMES with a DATE. BAD.", FatherListsKinds::countDates);
        Checks.of("`long trace()`: THE TRACE.", FatherListsKinds::onlyWorthAdds);
        Checks.end();
    }

    // ---- the object

    private static void constants() {
        Checks.due("BAD", FatherLists.BAD, -1);
        Checks.due("STATE", FatherLists.STATE, -2);
        Checks.due("FULL", FatherLists.FULL, -3);
        Checks.due("NONE", FatherLists.NONE, -9);
    }

    private static void calls() {
        FatherLists x = new FatherLists();
        for (int k = 1; k <= 511; k++) {
            Checks.due("call " + k, x.worth(5, 0), 0);
        }
        Checks.due("the 512th", x.trace(), 511L * 110001);
        FatherLists y = Checks.underLaw("far 0;");
        for (int k = 1; k <= 254; k++) {
            Checks.due("a chief", y.say(0, k % 26), Math.min(k, 12));
            Checks.due("he is in it", y.say(0, k % 26), Checks.STATE);
        }
    }

    private static void newObject() {
        FatherLists x = new FatherLists();
        Checks.dueLaw("law", x, 12, 1, 0, 50, 80);
        for (int i = 0; i < 4; i++) {
            Checks.dueList("list", x, i, "");
        }
        for (int h = 0; h < 6; h++) {
            Checks.due("strength", Checks.strengthOf(x, h), 0);
            Checks.due("claim", Checks.claimOf(x, h), Checks.NONE);
        }
        for (int name = 0; name < 26; name++) {
            Checks.due("date", Checks.dateOf(x, name), Checks.NONE);
        }
        Checks.due("low", Checks.lowOf(x), 20);
        Checks.due("high", Checks.highOf(x), 35);
        Checks.dueSaid("said", x, "", "", "");
        Checks.due("text", x.clear(), 0);
        Checks.due("image 0", x.back(0), Checks.STATE);
        Checks.due("image 1", x.back(1), Checks.STATE);
        for (int what = 0; what < 4; what++) {
            Checks.due("count " + what, x.count(what), 0);
        }
        Checks.due("trace", x.trace(), 0);
        FatherLists y = Checks.lists("abc");
        Checks.dueList("another one has its own", x, 0, "");
        Checks.dueList("another one has its own", y, 0, "abc");
    }

    // ---- kinds

    private static void kinds() {
        FatherLists x = Checks.lists("ab", "za", "a");
        Checks.houseOf(x, 0, 'a', 30);
        Checks.houseOf(x, 1, 'a', 40);
        x.date(0, 1);
        int[] worth = {3, 73, 7, 49, 10, 5};
        for (int kind = 0; kind < 6; kind++) {
            Checks.due("kind " + kind, x.worth(kind, 0), worth[kind]);
        }
    }

    private static void up() {
        FatherLists x = Checks.lists("a");
        Checks.houseOf(x, 0, 'a', 30);
        x.date(0, 1);
        int[] before = {1, 31, 3, 9, 8, 4};
        for (int kind = 0; kind < 6; kind++) {
            Checks.due("kind " + kind + ", in one list", x.worth(kind, 0), before[kind]);
        }
        Checks.listOf(x, 3, "a");
        int[] after = {2, 32, 4, 16, 9, 4};
        for (int kind = 0; kind < 6; kind++) {
            Checks.due("kind " + kind + ", in two", x.worth(kind, 0), after[kind]);
        }
        Checks.houseOf(x, 1, 'a', 5);
        int[] joined = {2, 37, 6, 36, 9, 4};
        for (int kind = 0; kind < 6; kind++) {
            Checks.due("kind " + kind + ", by two houses", x.worth(kind, 0), joined[kind]);
        }
        x.date(0, Checks.NONE);
        int[] undated = {2, 37, 6, 36, 2, 1};
        for (int kind = 0; kind < 6; kind++) {
            Checks.due("kind " + kind + ", without a date", x.worth(kind, 0), undated[kind]);
        }
    }

    private static void trace() {
        long[] added = {1, 11, 101, 1101, 10001, 110001};
        for (int kind = 0; kind < 6; kind++) {
            FatherLists x = Checks.lists("a", "ab");
            Checks.houseOf(x, 0, 'a', 50);
            Checks.houseOf(x, 1, 'a', 40);
            x.date(0, 5);
            Checks.due("0 at first", x.trace(), 0);
            x.worth(kind, 0);
            Checks.due("kind " + kind, x.trace(), added[kind]);
            x.worth(kind, 25);
            Checks.due("kind " + kind + " of a name of none", x.trace(), 2 * added[kind]);
            x.worth(kind, 26);
            x.worth(6, 0);
            x.worth(-1, 0);
            Checks.due("a refused one asks none", x.trace(), 2 * added[kind]);
        }
    }

    private static void name() {
        FatherLists x = Checks.lists("ab", "ba", "zya", "qra");
        Checks.due("in all", x.worth(0, 0), 4);
        Checks.due("in two", x.worth(0, 1), 2);
        Checks.due("in one", x.worth(0, 25), 1);
        Checks.due("in none", x.worth(0, 2), 0);
        Checks.houseOf(x, 0, 'a', 99);
        x.date(0, 1);
        Checks.due("by lists alone", x.worth(0, 0), 4);
    }

    private static void claimed() {
        FatherLists x = Checks.lists("ab", "a", "a", "a");
        Checks.due("by nobody", x.worth(1, 0), 4);
        for (int h = 0; h < 6; h++) {
            Checks.houseOf(x, h, 'a', 99);
        }
        Checks.due("by all", x.worth(1, 0), 598);
        Checks.due("another", x.worth(1, 1), 1);
        Checks.due("none", x.worth(1, 25), 0);
        Checks.houseOf(x, 0, 'z', 30);
        Checks.due("in no list", x.worth(1, 25), 30);
    }

    private static void joined() {
        FatherLists x = Checks.lists("ab", "a", "a", "a");
        Checks.due("by nobody", x.worth(2, 0), 4);
        for (int h = 0; h < 6; h++) {
            Checks.houseOf(x, h, 'a', h);
            Checks.due("by " + (h + 1), x.worth(2, 0), 4 + 2 * (h + 1));
        }
        Checks.due("another", x.worth(2, 1), 1);
        Checks.houseOf(x, 0, 'z', 0);
        Checks.due("in no list, of strength 0", x.worth(2, 25), 2);
    }

    private static void stood() {
        FatherLists x = Checks.lists("ab", "a", "a", "a");
        Checks.due("none", x.worth(3, 25), 0);
        Checks.due("one", x.worth(3, 1), 1);
        Checks.due("four", x.worth(3, 0), 16);
        for (int h = 0; h < 6; h++) {
            Checks.houseOf(x, h, 'a', 0);
        }
        Checks.due("sixteen", x.worth(3, 0), 256);
    }

    private static void dated() {
        FatherLists x = Checks.lists("ab", "a", "a", "a");
        Checks.due("without", x.worth(4, 0), 4);
        x.date(0, 0);
        Checks.due("year 0 is one", x.worth(4, 0), 11);
        x.date(0, 2000);
        Checks.due("2000 is one", x.worth(4, 0), 11);
        Checks.due("another", x.worth(4, 1), 1);
        x.date(25, 3);
        Checks.due("in no list", x.worth(4, 25), 7);
        x.date(0, Checks.NONE);
        Checks.due("without again", x.worth(4, 0), 4);
        Checks.houseOf(x, 0, 'a', 99);
        Checks.due("houses do not matter", x.worth(4, 0), 4);
    }

    private static void far() {
        FatherLists x = Checks.lists("abc", "abd", "ad", "a");
        Checks.due("half of 0", x.worth(5, 25), 0);
        Checks.due("half of 1", x.worth(5, 2), 0);
        Checks.due("half of 2", x.worth(5, 1), 1);
        Checks.due("half of 4", x.worth(5, 0), 2);
        x.date(25, 0);
        x.date(2, 0);
        x.date(0, 0);
        Checks.due("half of 7", x.worth(5, 25), 3);
        Checks.due("half of 8", x.worth(5, 2), 4);
        Checks.due("half of 11", x.worth(5, 0), 5);
    }

    private static void worth() {
        FatherLists x = Checks.lists("az");
        Checks.due("kind 0", x.worth(0, 0), 1);
        Checks.due("kind 5", x.worth(5, 25), 0);
        long asked = x.trace();
        for (int kind : new int[] {-1, 6, 7, Checks.NONE, 32, 256, Checks.LEAST_INT, Checks.MOST_INT}) {
            Checks.due("kind " + kind, x.worth(kind, 0), Checks.BAD);
        }
        for (int kind = 0; kind < 6; kind++) {
            Checks.due("NONE is no name", x.worth(kind, Checks.NONE), Checks.BAD);
            for (int name : Checks.NO_NAME) {
                Checks.due("kind " + kind + " of name " + name, x.worth(kind, name), Checks.BAD);
            }
        }
        Checks.due("none was asked", x.trace(), asked);
    }

    // ---- images

    private static FatherLists full() {
        FatherLists x = Checks.underLaw("hold 9;weak 3;", "abc", "", "zyx", TWELVE);
        for (int h = 0; h < 6; h++) {
            Checks.houseOf(x, h, (char) ('u' + h), 10 * h);
        }
        x.date(0, 0);
        x.date(25, 2000);
        return x;
    }

    private static void change(FatherLists x) {
        for (int i = 0; i < 4; i++) {
            Checks.listOf(x, i, "qrst".substring(i));
        }
        for (int h = 0; h < 6; h++) {
            Checks.houseOf(x, h, 'm', 77);
        }
        x.house(3, 1, Checks.NONE);
        for (int name = 0; name < 26; name++) {
            x.date(name, name == 0 ? Checks.NONE : 3);
        }
    }

    private static void images() {
        for (int image = 0; image < 2; image++) {
            FatherLists x = full();
            String kept = Checks.picture(x);
            x.keep(image);
            Checks.dueText("keeping changes nothing", Checks.picture(x), kept);
            change(x);
            x.back(image);
            Checks.dueText("lists, houses and dates come back", Checks.picture(x), kept);
        }
        FatherLists y = full();
        y.say(1, 7);
        y.keep(0);
        Checks.lawOf(y, "hold 4;far 0;");
        y.link(0, 3);
        y.link(1, 4);
        y.worth(0, 0);
        Checks.houseOf(y, 0, 'q', 66);
        y.say(0, 8);
        Checks.typed(y, "far 5;");
        y.back(0);
        Checks.dueLaw("the law is as it was", y, 4, 0, 0, 50, 80);
        Checks.due("low is as it was", Checks.lowOf(y), 3);
        Checks.due("high is as it was", Checks.highOf(y), 4);
        Checks.due("the trace is as it was", y.trace(), 1);
        Checks.dueSaid("the latest saying is as it was", y, "qz", "", "ab");
        Checks.due("the text is as it was", y.law(), 1);
        Checks.due("the text is as it was", y.told(1), 5);
    }

    private static void keep() {
        FatherLists x = new FatherLists();
        Checks.due("none", x.keep(0), 0);
        Checks.listOf(x, 0, "ab");
        Checks.listOf(x, 3, "bcd");
        Checks.due("each in each list", x.keep(1), 5);
        for (int i = 0; i < 4; i++) {
            Checks.listOf(x, i, TWELVE);
        }
        Checks.due("the most", x.keep(0), 48);
        for (int image : new int[] {-1, 2, 3, Checks.NONE, 32, 256, Checks.LEAST_INT, Checks.MOST_INT}) {
            Checks.due("image " + image, x.keep(image), Checks.BAD);
        }
        Checks.due("1 is as it was", x.back(1), 5);
        Checks.due("0 was kept anew", x.back(0), 48);
        Checks.listOf(x, 0, "");
        x.keep(0);
        Checks.due("0 was kept anew", x.back(0), 36);
        Checks.due("1 is as it was", x.back(1), 5);
    }

    private static void back() {
        FatherLists x = full();
        Checks.due("kept", x.keep(1), 18);
        String kept = Checks.picture(x);
        change(x);
        Checks.due("changed", x.count(0), 10);
        Checks.due("back", x.back(1), 18);
        x.say(0, 16);
        x.house(0, 0, 5);
        x.date(0, 9);
        Checks.due("an image stays as it was", x.back(1), 18);
        Checks.due("once more", x.back(1), 18);
        Checks.listOf(x, 3, "");
        Checks.due("kept anew", x.keep(1), 6);
        Checks.due("of that", x.back(1), 6);
        FatherLists y = full();
        y.keep(1);
        y.say(0, 16);
        y.house(0, 0, 5);
        y.house(0, 1, 5);
        y.date(0, 9);
        y.back(1);
        y.say(2, 15);
        y.house(1, 0, 6);
        y.date(1, 9);
        Checks.due("an image stays, though its names were said anew", y.back(1), 18);
        Checks.dueList("list", y, 0, "abc");
        Checks.dueList("list", y, 2, "zyx");
        Checks.due("strength", Checks.strengthOf(y, 0), 0);
        Checks.due("claim", Checks.claimOf(y, 0), Checks.n('u'));
        Checks.due("strength", Checks.strengthOf(y, 1), 10);
        Checks.due("date", Checks.dateOf(y, 0), 0);
        Checks.due("date", Checks.dateOf(y, 1), Checks.NONE);
        FatherLists z = full();
        z.keep(0);
        change(z);
        z.back(0);
        Checks.dueText("all of it", Checks.picture(z), kept);
    }

    private static void noneWasKept() {
        for (int image = 0; image < 2; image++) {
            FatherLists x = Checks.lists("abc");
            Checks.due("none", x.back(image), Checks.STATE);
            x.keep(1 - image);
            Checks.due("the other one alone", x.back(image), Checks.STATE);
            Checks.dueList("nothing changes", x, 0, "abc");
            Checks.due("it is there", x.back(1 - image), 3);
            for (int no : new int[] {-1, 2, 3, Checks.NONE, 32, 256, Checks.LEAST_INT, Checks.MOST_INT}) {
                Checks.due("image " + no, x.back(no), Checks.BAD);
            }
            x.keep(image);
            Checks.due("now it is", x.back(image), 3);
        }
        FatherLists y = new FatherLists();
        y.keep(0);
        Checks.due("an image of nothing is one", y.back(0), 0);
    }

    // ---- counts

    private static void countNames() {
        FatherLists x = Checks.lists("ab", "bc", "b");
        Checks.due("each in each list", x.count(0), 5);
        x.say(3, 25);
        Checks.due("one more by a saying", x.count(0), 6);
        for (int i = 0; i < 4; i++) {
            Checks.listOf(x, i, TWELVE);
        }
        Checks.due("the most", x.count(0), 48);
        for (int i = 0; i < 4; i++) {
            Checks.listOf(x, i, "");
        }
        Checks.due("none", x.count(0), 0);
    }

    private static void countBytes() {
        FatherLists x = new FatherLists();
        Checks.due("none", x.count(1), 0);
        for (int k = 1; k <= 25; k++) {
            x.type(0, 8);
            Checks.due("so far", x.count(1), 8 * k);
        }
        x.type(0, 1);
        Checks.due("the most", x.count(1), 200);
        x.clear();
        Checks.due("cleared", x.count(1), 0);
    }

    private static void countHouses() {
        FatherLists x = new FatherLists();
        for (int h = 0; h < 6; h++) {
            x.house(h, 0, 50);
            Checks.due("strength is no name", x.count(2), h);
            x.house(h, 1, 0);
            Checks.due("a name of others counts again", x.count(2), h + 1);
        }
        x.house(0, 1, Checks.NONE);
        Checks.due("one less", x.count(2), 5);
    }

    private static void countDates() {
        FatherLists x = new FatherLists();
        for (int name = 0; name < 26; name++) {
            x.date(name, 0);
            Checks.due("year 0 is one; in no list, too", x.count(3), name + 1);
        }
        x.date(25, Checks.NONE);
        Checks.due("one less", x.count(3), 25);
        for (int what : new int[] {-1, 4, 5, Checks.NONE, 32, 256, Checks.LEAST_INT, Checks.MOST_INT}) {
            Checks.due("count " + what, x.count(what), Checks.BAD);
        }
    }

    private static void onlyWorthAdds() {
        FatherLists x = full();
        x.say(0, 20);
        x.foretold(0, 0, 50, 0);
        x.held(0);
        x.court(1, 0, 1);
        x.orders(1);
        x.keep(0);
        x.back(0);
        x.count(0);
        Checks.due("other calls add nothing", x.trace(), 0);
        x.worth(1, 0);
        Checks.due("worth does", x.trace(), 11);
        Checks.due("asking for it adds nothing", x.trace(), 11);
    }
}
