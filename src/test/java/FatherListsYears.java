/** Section 4 of the document up to courts, and promises 18 to 22, sentence by sentence. */
public final class FatherListsYears {
    private static final String TWELVE = "abcdefghijkl";

    public static void main(String[] args) {
        Checks.of("DATES of NAMES: a year 0 .. 2000 or NONE (at first).", FatherListsYears::dates);
        Checks.of("takes LOW .. HIGH years", FatherListsYears::linksTakeYears);
        Checks.of("(1 .. 60 each, LOW no more than HIGH; 20, 35 at first)", FatherListsYears::links);
        Checks.of("the earliest and the latest year by all DATES and LINKS", FatherListsYears::byAllDates);
        Checks.of("(a year below 0 too;", FatherListsYears::yearsBelow0);
        Checks.of("none, where no NAME of the LIST has a DATE", FatherListsYears::noDate);
        Checks.of("STATE: they can't all be.", FatherListsYears::theyCannotAllBe);
        Checks.of("LOST: between two neighbouring dated NAMES of a LIST", FatherListsYears::neighbours);
        Checks.of("the fewest NAMES that must have been there besides, so that LINKS do", FatherListsYears::fewest);
        Checks.of("(0, if they do;", FatherListsYears::linksDo);
        Checks.of("STATE, if they do by no number of NAMES", FatherListsYears::byNoNumber);
        Checks.of("all added.\n", FatherListsYears::allAdded);
        Checks.of("1 for each LIST in which the CLAIM of the first stands ahead of that of the second",
            FatherListsYears::courtAhead);
        Checks.of("(one that is there is ahead of one that is not)", FatherListsYears::courtThere);
        Checks.of("-1 the other way about, added.", FatherListsYears::courtAdded);
        Checks.of("The DATE of a NAME becomes v (NONE: none): what it was. BAD.", FatherListsYears::date);
        Checks.of("LOW (what = 0), HIGH (1) becomes v: what it was. BAD.", FatherListsYears::link);
        Checks.of("the earliest year (what = 0), the latest (1). NO: BAD, none, or STATE.", FatherListsYears::span);
        Checks.of("LOST of a LIST. BAD; STATE.", FatherListsYears::lost);
        Checks.of("COURT by a set of LISTS. NO: BAD, or one of both goes by no NAME.", FatherListsYears::court);
        Checks.of("What none is, where a number may be below 0.", FatherListsYears::noIsNoYear);
        Checks.end();
    }

    private static void dueSpan(FatherLists x, int i, int k, int earliest, int latest) {
        Checks.due("list " + i + ", place " + k + ", earliest", x.span(i, k, 0), earliest);
        Checks.due("list " + i + ", place " + k + ", latest", x.span(i, k, 1), latest);
    }

    private static FatherLists linked(int low, int high, String... texts) {
        FatherLists x = Checks.lists(texts);
        x.link(1, 60);
        x.link(0, low);
        x.link(1, high);
        return x;
    }

    // ---- dates, links

    private static void dates() {
        FatherLists x = new FatherLists();
        for (int name = 0; name < 26; name++) {
            Checks.due("NONE at first", x.date(name, 0), Checks.NONE);
            Checks.due("0 was it", x.date(name, 2000), 0);
        }
        Checks.due("all have one", x.count(3), 26);
        for (int v : new int[] {-1, 2001, 2002, -8, -10, 65536, Checks.LEAST_INT, Checks.MOST_INT}) {
            Checks.due("year " + v, x.date(0, v), Checks.BAD);
        }
        Checks.due("2000 was it", x.date(0, Checks.NONE), 2000);
        Checks.due("NONE was it", x.date(0, Checks.NONE), Checks.NONE);
        Checks.due("one has none", x.count(3), 25);
    }

    private static void linksTakeYears() {
        FatherLists x = Checks.lists("abc");
        x.date(1, 1000);
        dueSpan(x, 0, 0, 965, 980);
        dueSpan(x, 0, 2, 1020, 1035);
        x.link(0, 1);
        x.link(1, 60);
        dueSpan(x, 0, 0, 940, 999);
        dueSpan(x, 0, 2, 1001, 1060);
        x.link(1, 1);
        dueSpan(x, 0, 0, 999, 999);
        dueSpan(x, 0, 2, 1001, 1001);
        x.link(1, 60);
        x.link(0, 60);
        dueSpan(x, 0, 0, 940, 940);
        dueSpan(x, 0, 2, 1060, 1060);
    }

    private static void links() {
        FatherLists x = new FatherLists();
        Checks.due("low above high", x.link(0, 36), Checks.BAD);
        Checks.due("high below low", x.link(1, 19), Checks.BAD);
        Checks.due("20 at first; low may be high", x.link(0, 35), 20);
        Checks.due("35 at first; high may be low", x.link(1, 35), 35);
        Checks.due("high below low", x.link(1, 34), Checks.BAD);
        Checks.due("high at most", x.link(1, 60), 35);
        Checks.due("low at most", x.link(0, 60), 35);
        Checks.due("high below low", x.link(1, 59), Checks.BAD);
        Checks.due("low at least", x.link(0, 1), 60);
        Checks.due("high at least", x.link(1, 1), 60);
        Checks.due("low above high", x.link(0, 2), Checks.BAD);
        for (int v : new int[] {0, -1, 61, 62, Checks.NONE, 256, 257, Checks.LEAST_INT, Checks.MOST_INT}) {
            Checks.due("low " + v, x.link(0, v), Checks.BAD);
            Checks.due("high " + v, x.link(1, v), Checks.BAD);
        }
        Checks.due("low stays", x.link(0, 1), 1);
        Checks.due("high stays", x.link(1, 1), 1);
    }

    // ---- spans

    private static void byAllDates() {
        FatherLists x = Checks.lists("abcdefg");
        x.date(1, 100);
        x.date(3, 145);
        x.date(5, 215);
        dueSpan(x, 0, 0, 65, 80);
        dueSpan(x, 0, 1, 100, 100);
        dueSpan(x, 0, 2, 120, 125);
        dueSpan(x, 0, 3, 145, 145);
        dueSpan(x, 0, 4, 180, 180);
        dueSpan(x, 0, 5, 215, 215);
        dueSpan(x, 0, 6, 235, 250);
        FatherLists y = Checks.lists(TWELVE);
        y.date(0, 0);
        y.date(11, 225);
        // Eleven links take 220 years at least: five years are free.
        dueSpan(y, 0, 1, 20, 25);
        dueSpan(y, 0, 6, 120, 125);
        dueSpan(y, 0, 10, 200, 205);
        y.date(11, 380);
        // ... and 385 at most.
        dueSpan(y, 0, 1, 30, 35);
        dueSpan(y, 0, 10, 345, 350);
        FatherLists z = Checks.lists("ab", "cd", "ad");
        z.date(0, 500);
        z.date(3, 525);
        dueSpan(z, 0, 1, 520, 535);
        dueSpan(z, 1, 0, 490, 505);
        dueSpan(z, 2, 0, 500, 500);
        dueSpan(z, 2, 1, 525, 525);
    }

    private static void yearsBelow0() {
        FatherLists x = Checks.lists(TWELVE, "ab");
        x.date(1, 0);
        dueSpan(x, 1, 0, -35, -20);
        x.date(1, 21);
        dueSpan(x, 1, 0, -14, 1);
        x.date(1, Checks.NONE);
        x.date(11, 0);
        dueSpan(x, 0, 0, -385, -220);
        x.link(1, 60);
        dueSpan(x, 0, 0, -660, -220);
        x.date(11, Checks.NONE);
        x.date(0, 2000);
        dueSpan(x, 0, 11, 2220, 2660);
    }

    private static void noDate() {
        FatherLists x = Checks.lists("abc", "xyz", "a");
        x.date(25, 100);
        for (int k = 0; k < 3; k++) {
            dueSpan(x, 0, k, Checks.NO, Checks.NO);
        }
        dueSpan(x, 1, 0, 30, 60);
        dueSpan(x, 2, 0, Checks.NO, Checks.NO);
        x.date(0, 0);
        dueSpan(x, 0, 0, 0, 0);
        dueSpan(x, 2, 0, 0, 0);
        x.date(0, Checks.NONE);
        dueSpan(x, 0, 0, Checks.NO, Checks.NO);
    }

    private static void theyCannotAllBe() {
        FatherLists x = Checks.lists("abcd", "ad", "cd", "ab");
        x.date(0, 100);
        int[] years = {159, 160, 205, 206, 100, 99, 0, 2000};
        for (int year : years) {
            x.date(3, year);
            boolean can = year >= 160 && year <= 205;
            for (int k = 0; k < 4; k++) {
                Checks.due("d in " + year + ", place " + k, x.span(0, k, 0) != Checks.NO ? 1 : 0, can ? 1 : 0);
                Checks.due("d in " + year + ", place " + k, x.span(0, k, 1) != Checks.NO ? 1 : 0, can ? 1 : 0);
            }
            dueSpan(x, 2, 1, year, year);
            dueSpan(x, 3, 0, 100, 100);
        }
        x.date(3, 120);
        dueSpan(x, 1, 1, 120, 120);
        x.date(3, 119);
        dueSpan(x, 1, 1, Checks.NO, Checks.NO);
        x.date(3, 135);
        dueSpan(x, 1, 0, 100, 100);
        x.date(3, 136);
        dueSpan(x, 1, 0, Checks.NO, Checks.NO);
        x.link(1, 36);
        dueSpan(x, 1, 0, 100, 100);
        // By the years of the first and the last place alone both dates could be.
        FatherLists y = Checks.lists("abcde");
        y.date(1, 100);
        y.date(2, 136);
        for (int k = 0; k < 5; k++) {
            dueSpan(y, 0, k, Checks.NO, Checks.NO);
        }
        y.date(3, 119);
        y.date(2, Checks.NONE);
        y.date(4, 150);
        for (int k = 0; k < 5; k++) {
            dueSpan(y, 0, k, Checks.NO, Checks.NO);
        }
    }

    // ---- lost

    private static void neighbours() {
        FatherLists x = Checks.lists("abcdefg", "ag");
        x.date(0, 100);
        x.date(6, 300);
        Checks.due("six links do 200 years, names without a date between", x.lost(0), 0);
        Checks.due("as neighbours in another list", x.lost(1), 5);
        x.date(3, 140);
        Checks.due("by neighbours: 40 are too few for three", x.lost(0), Checks.STATE);
        x.date(3, 180);
        Checks.due("80 by three, 120 by four", x.lost(0), 1);
        Checks.due("d is not in the other list", x.lost(1), 5);
        x.date(25, 5);
        Checks.due("z is in neither", x.lost(0), 1);
    }

    private static void dueLost(FatherLists x, int years, int lost) {
        x.date(0, 0);
        x.date(1, years);
        Checks.due(years + " years", x.lost(0), lost);
    }

    private static void fewest() {
        FatherLists x = Checks.lists("ab");
        dueLost(x, 40, 1);
        dueLost(x, 70, 1);
        dueLost(x, 71, 2);
        dueLost(x, 80, 2);
        dueLost(x, 105, 2);
        dueLost(x, 106, 3);
        dueLost(x, 2000, 57);
        FatherLists y = linked(1, 1, "ab");
        dueLost(y, 1, 0);
        dueLost(y, 2, 1);
        dueLost(y, 2000, 1999);
        FatherLists z = linked(1, 60, "ab");
        dueLost(z, 60, 0);
        dueLost(z, 61, 1);
        dueLost(z, 2000, 33);
        FatherLists w = linked(60, 60, "ab");
        dueLost(w, 60, 0);
        dueLost(w, 120, 1);
        dueLost(w, 1980, 32);
    }

    private static void linksDo() {
        FatherLists x = Checks.lists("ab", "abc", "");
        Checks.due("no dates", x.lost(0), 0);
        Checks.due("no names", x.lost(2), 0);
        x.date(0, 50);
        Checks.due("one date", x.lost(0), 0);
        x.date(0, Checks.NONE);
        for (int year : new int[] {0, 50, 2000}) {
            x.date(1, year);
            Checks.due("one date, not the first place's", x.lost(0), 0);
            x.date(1, Checks.NONE);
            x.date(2, year);
            Checks.due("one date, the last place's", x.lost(1), 0);
            x.date(2, Checks.NONE);
        }
        dueLost(x, 20, 0);
        dueLost(x, 27, 0);
        dueLost(x, 35, 0);
        x.date(1, Checks.NONE);
        x.date(2, 40);
        Checks.due("two links, at least", x.lost(1), 0);
        x.date(2, 70);
        Checks.due("two links, at most", x.lost(1), 0);
        x.date(2, 71);
        Checks.due("one more", x.lost(1), 1);
    }

    private static void byNoNumber() {
        FatherLists x = Checks.lists("ab");
        dueLost(x, 0, Checks.STATE);
        dueLost(x, 1, Checks.STATE);
        dueLost(x, 19, Checks.STATE);
        dueLost(x, 36, Checks.STATE);
        dueLost(x, 39, Checks.STATE);
        x.date(0, 100);
        x.date(1, 80);
        Checks.due("turned", x.lost(0), Checks.STATE);
        x.date(0, 2000);
        x.date(1, 0);
        Checks.due("turned by far", x.lost(0), Checks.STATE);
        FatherLists y = linked(60, 60, "ab");
        dueLost(y, 59, Checks.STATE);
        dueLost(y, 61, Checks.STATE);
        dueLost(y, 119, Checks.STATE);
        dueLost(y, 2000, Checks.STATE);
        FatherLists z = linked(30, 33, "abcd");
        z.date(0, 0);
        z.date(3, 60);
        Checks.due("names that are there can't be fewer", z.lost(0), Checks.STATE);
        z.date(3, 90);
        Checks.due("just as many", z.lost(0), 0);
        z.date(3, 100);
        Checks.due("above three, below four", z.lost(0), Checks.STATE);
        z.date(3, 120);
        Checks.due("four", z.lost(0), 1);
    }

    private static void allAdded() {
        FatherLists x = Checks.lists("abcd");
        x.date(0, 0);
        x.date(1, 40);
        x.date(2, 140);
        x.date(3, 165);
        Checks.due("1, 2 and 0", x.lost(0), 3);
        x.date(3, 365);
        Checks.due("1, 2 and 6", x.lost(0), 9);
        x.date(3, 177);
        Checks.due("the last by none", x.lost(0), Checks.STATE);
        x.date(3, 160);
        x.date(0, 3);
        Checks.due("the first by none", x.lost(0), Checks.STATE);
        FatherLists y = linked(1, 1, TWELVE);
        for (int k = 0; k < 12; k++) {
            y.date(k, k * 181);
        }
        Checks.due("eleven times 180", y.lost(0), 1980);
    }

    // ---- courts

    private static void courtAhead() {
        FatherLists x = Checks.lists("ab", "axb", "ba", TWELVE);
        Checks.houseOf(x, 0, 'a', 0);
        Checks.houseOf(x, 5, 'b', 99);
        Checks.due("ahead", x.court(1, 0, 5), 1);
        Checks.due("not next to it", x.court(2, 0, 5), 1);
        Checks.due("behind", x.court(4, 0, 5), -1);
        Checks.houseOf(x, 5, 'l', 0);
        Checks.due("the first and the last", x.court(8, 0, 5), 1);
        Checks.due("the last and the first", x.court(8, 5, 0), -1);
        Checks.houseOf(x, 5, 'a', 0);
        Checks.due("the same claim", x.court(15, 0, 5), 0);
        Checks.due("the same house", x.court(15, 0, 0), 0);
    }

    private static void courtThere() {
        FatherLists x = Checks.lists("xya", "b", "", "z");
        Checks.houseOf(x, 0, 'a', 0);
        Checks.houseOf(x, 1, 'b', 0);
        Checks.due("one is, at the end", x.court(1, 0, 1), 1);
        Checks.due("the other is", x.court(2, 0, 1), -1);
        Checks.due("turned", x.court(1, 1, 0), -1);
        Checks.due("neither, in an empty one", x.court(4, 0, 1), 0);
        Checks.due("neither", x.court(8, 0, 1), 0);
    }

    private static void courtAdded() {
        FatherLists x = Checks.lists("ab", "ab", "ab", "ab");
        Checks.houseOf(x, 0, 'a', 0);
        Checks.houseOf(x, 1, 'b', 0);
        for (int set = 1; set <= 15; set++) {
            Checks.due("set " + set, x.court(set, 0, 1), Integer.bitCount(set));
            Checks.due("set " + set + " turned", x.court(set, 1, 0), -Integer.bitCount(set));
        }
        Checks.listOf(x, 3, "ba");
        Checks.due("three less one", x.court(15, 0, 1), 2);
        Checks.listOf(x, 0, "b");
        Checks.due("two less two", x.court(15, 0, 1), 0);
        Checks.due("none of 0", x.court(6, 0, 1), 2);
    }

    // ---- calls

    private static void date() {
        FatherLists x = new FatherLists();
        Checks.due("none was it", x.date(0, 7), Checks.NONE);
        Checks.due("7 was it", x.date(0, Checks.NONE), 7);
        Checks.due("none was it", x.date(0, 8), Checks.NONE);
        Checks.due("the last name", x.date(25, 9), Checks.NONE);
        Checks.due("NONE is no name", x.date(Checks.NONE, 5), Checks.BAD);
        for (int name : Checks.NO_NAME) {
            Checks.due("name " + name, x.date(name, 5), Checks.BAD);
            Checks.due("name " + name + ", none", x.date(name, Checks.NONE), Checks.BAD);
        }
        Checks.due("a refused year", x.date(0, 2001), Checks.BAD);
        Checks.due("it stays", x.date(0, 8), 8);
        Checks.due("others stay", x.date(1, Checks.NONE), Checks.NONE);
    }

    private static void link() {
        FatherLists x = new FatherLists();
        Checks.due("low", x.link(0, 25), 20);
        Checks.due("high", x.link(1, 30), 35);
        Checks.due("low was", x.link(0, 26), 25);
        Checks.due("high was", x.link(1, 31), 30);
        for (int what : new int[] {-1, 2, 3, Checks.NONE, 32, 256, Checks.LEAST_INT, Checks.MOST_INT}) {
            Checks.due("what = " + what, x.link(what, 28), Checks.BAD);
        }
        Checks.due("low stays", x.link(0, 26), 26);
        Checks.due("high stays", x.link(1, 31), 31);
    }

    private static void span() {
        FatherLists x = Checks.lists("abc", "de", "");
        x.date(1, 1000);
        dueSpan(x, 0, 0, 965, 980);
        dueSpan(x, 0, 2, 1020, 1035);
        for (int k : new int[] {-1, -2, 3, 4, 12, Checks.NONE, 256, Checks.LEAST_INT, Checks.MOST_INT}) {
            dueSpan(x, 0, k, Checks.NO, Checks.NO);
        }
        for (int i : Checks.NO_LIST) {
            dueSpan(x, i, 0, Checks.NO, Checks.NO);
        }
        for (int what : new int[] {-1, 2, 3, Checks.NONE, 32, 256, Checks.LEAST_INT, Checks.MOST_INT}) {
            Checks.due("what = " + what, x.span(0, 0, what), Checks.NO);
        }
        dueSpan(x, 1, 0, Checks.NO, Checks.NO);
        dueSpan(x, 2, 0, Checks.NO, Checks.NO);
        x.date(2, 1001);
        dueSpan(x, 0, 0, Checks.NO, Checks.NO);
    }

    private static void lost() {
        FatherLists x = Checks.lists("ab", "", "", "ab");
        x.date(0, 0);
        x.date(1, 40);
        Checks.due("the first", x.lost(0), 1);
        Checks.due("the last", x.lost(3), 1);
        Checks.due("an empty one", x.lost(1), 0);
        x.date(1, 39);
        Checks.due("STATE", x.lost(0), Checks.STATE);
        for (int i : Checks.NO_LIST) {
            Checks.due("list " + i, x.lost(i), Checks.BAD);
        }
    }

    private static void court() {
        FatherLists x = Checks.lists("ab", "ab", "ab", "ab");
        Checks.houseOf(x, 0, 'a', 0);
        Checks.houseOf(x, 5, 'b', 0);
        Checks.due("as it may be", x.court(1, 0, 5), 1);
        for (int set : Checks.NO_SET) {
            Checks.due("set " + set, x.court(set, 0, 5), Checks.NO);
        }
        for (int h : Checks.NO_HOUSE) {
            Checks.due("house " + h, x.court(1, h, 5), Checks.NO);
            Checks.due("against house " + h, x.court(1, 0, h), Checks.NO);
        }
        Checks.due("the one goes by none", x.court(15, 1, 5), Checks.NO);
        Checks.due("the other goes by none", x.court(15, 0, 1), Checks.NO);
        Checks.due("both go by none", x.court(15, 1, 2), Checks.NO);
        Checks.due("one house twice, by none", x.court(15, 1, 1), Checks.NO);
        x.house(0, 1, Checks.NONE);
        Checks.due("by none any more", x.court(1, 0, 5), Checks.NO);
        x.house(0, 1, 25);
        Checks.due("by a name of no list", x.court(15, 0, 5), -4);
    }

    private static void noIsNoYear() {
        Checks.due("NO", FatherLists.NO, -1000000);
        FatherLists x = linked(60, 60, TWELVE);
        x.date(11, 0);
        Checks.due("the lowest year is above it", x.span(0, 0, 0), -660);
        FatherLists y = Checks.lists("ab", "c", "de", "a");
        Checks.houseOf(y, 0, 'b', 0);
        Checks.houseOf(y, 1, 'a', 0);
        Checks.due("-1 is a court's answer, too", y.court(1, 0, 1), -1);
        Checks.due("-2 is a court's answer, too", y.court(15, 0, 1), -2);
    }
}
