/** Section 3 of the document and promises 14 to 17, sentence by sentence. */
public final class FatherListsSides {
    private static final String TWELVE = "abcdefghijkl";
    private static final String TURNED = "lkjihgfedcba";

    public static void main(String[] args) {
        Checks.of("GONE: NAMES of the first that the second has not, COME the other way about",
            FatherListsSides::goneAndCome);
        Checks.of("SAME: the most NAMES of both that stand in the same order in both", FatherListsSides::same);
        Checks.of("TURNED: NAMES of both, less SAME.", FatherListsSides::turned);
        Checks.of("rows of all NAMES in any of them", FatherListsSides::namesInAny);
        Checks.of("(12 at most; else STATE)", FatherListsSides::twelveAtMost);
        Checks.of("in which all NAMES of each LIST stand in its order: how many.", FatherListsSides::howManyOrders);
        Checks.of("QUARREL: the fewest of these LISTS that have none", FatherListsSides::fewest);
        Checks.of("(of several the least set)", FatherListsSides::leastSet);
        Checks.of("whether the one is ahead of the other in all ORDERS (1), in none (0), in some (2)",
            FatherListsSides::allNoneSome);
        Checks.of("in some (2); STATE: there are none.", FatherListsSides::aheadOfNone);
        Checks.of("Of two LISTS: GONE (what = 0), COME (1), as bits; SAME (2), TURNED (3). BAD.", FatherListsSides::both);
        Checks.of("ORDERS of a set of LISTS (bits 1 .. 15). -1: BAD; -2: STATE.", FatherListsSides::orders);
        Checks.of("QUARREL: how many (what = 0), the set (1); NONE.", FatherListsSides::quarrel);
        Checks.of("STATE: more than 12 NAMES.", FatherListsSides::quarrelOfTooMany);
        Checks.of("BAD: one that none of them has, or one and the same, too; STATE.", FatherListsSides::ahead);
        Checks.end();
    }

    // ---- two lists

    private static void goneAndCome() {
        FatherLists x = Checks.lists("abz", "cbd", "", TWELVE);
        Checks.due("gone", x.both(0, 1, 0), Checks.bits("az"));
        Checks.due("come", x.both(0, 1, 1), Checks.bits("cd"));
        Checks.due("gone, the other way about", x.both(1, 0, 0), Checks.bits("cd"));
        Checks.due("come, the other way about", x.both(1, 0, 1), Checks.bits("az"));
        Checks.due("all gone", x.both(3, 2, 0), 4095);
        Checks.due("none come", x.both(3, 2, 1), 0);
        Checks.due("none gone", x.both(2, 3, 0), 0);
        Checks.due("all come", x.both(2, 3, 1), 4095);
        Checks.due("none of none", x.both(2, 2, 0), 0);
        Checks.due("none of itself gone", x.both(0, 0, 0), 0);
        Checks.due("none of itself come", x.both(0, 0, 1), 0);
    }

    private static void same() {
        FatherLists x = Checks.lists(TWELVE, TURNED, "", "mnopqrstuvwx");
        Checks.due("itself", x.both(0, 0, 2), 12);
        Checks.due("turned", x.both(0, 1, 2), 1);
        Checks.due("an empty one", x.both(0, 2, 2), 0);
        Checks.due("two empty ones", x.both(2, 2, 2), 0);
        Checks.due("none of both", x.both(0, 3, 2), 0);
        FatherLists y = Checks.lists("axbyc", "pabqc", "cabxyz", "badcfe");
        Checks.due("others between do not matter", y.both(0, 1, 2), 3);
        Checks.due("all but c", y.both(0, 2, 2), 3);
        Checks.due("the other way about", y.both(2, 0, 2), 3);
        Checks.listOf(y, 0, "abcdef");
        Checks.due("one of each pair", y.both(0, 3, 2), 3);
        Checks.listOf(y, 0, "ghijklabcdef");
        Checks.listOf(y, 1, "abcdefghijkl");
        Checks.due("two halves", y.both(0, 1, 2), 6);
        Checks.listOf(y, 1, "lgahbicjdkef");
        Checks.due("the longest does not begin first", y.both(0, 1, 2), 7);
    }

    private static void turned() {
        FatherLists x = Checks.lists(TWELVE, TURNED, "", "bamn");
        Checks.due("none of itself", x.both(0, 0, 3), 0);
        Checks.due("all but one", x.both(0, 1, 3), 11);
        Checks.due("an empty one", x.both(0, 2, 3), 0);
        Checks.due("of the two of both", x.both(0, 3, 3), 1);
        Checks.due("of the two of both, the other way about", x.both(3, 0, 3), 1);
        Checks.due("of the two of both, turned", x.both(1, 3, 3), 0);
    }

    // ---- orders

    private static void namesInAny() {
        FatherLists x = Checks.lists("az", "bz", "", "");
        Checks.due("names of one alone are in it, too", x.orders(3), 2);
        Checks.due("names of others are not", x.orders(1), 1);
        Checks.due("an empty one adds none", x.orders(7), 2);
        Checks.due("no names: one row, of none", x.orders(12), 1);
        Checks.due("no names: one row, of none", x.orders(4), 1);
        FatherLists y = Checks.lists("a", "b", "c", "d");
        Checks.due("one", y.orders(8), 1);
        Checks.due("two", y.orders(12), 2);
        Checks.due("three", y.orders(11), 6);
        Checks.due("four", y.orders(15), 24);
        FatherLists z = Checks.lists("a", "a", "a", "z");
        Checks.due("a name of several is there once", z.orders(7), 1);
        Checks.due("a name of several is there once", z.orders(15), 2);
    }

    private static void twelveAtMost() {
        FatherLists x = Checks.lists("abc", "def", "ghi", "jkl");
        Checks.due("twelve", x.orders(15), 369600);
        Checks.listOf(x, 3, "jklm");
        Checks.due("thirteen", x.orders(15), Checks.STATE);
        Checks.due("ten of them", x.orders(11), 4200);
        Checks.listOf(x, 3, "aeijkl");
        Checks.due("fifteen places, twelve names", x.orders(15) > 0 ? 1 : 0, 1);
        FatherLists y = Checks.lists(TWELVE, TURNED, "m", "mnopqrstuvwx");
        Checks.due("twelve in one", y.orders(1), 1);
        Checks.due("twelve in two", y.orders(3), 0);
        Checks.due("thirteen", y.orders(5), Checks.STATE);
        Checks.due("thirteen, though there are none", y.orders(7), Checks.STATE);
        Checks.due("twelve again", y.orders(12), 1);
        Checks.due("24", y.orders(9), Checks.STATE);
        FatherLists z = Checks.lists(TWELVE, "mnopqrstuvwx", "yz", "a");
        Checks.due("all 26", z.orders(7), Checks.STATE);
        Checks.due("all 26", z.orders(15), Checks.STATE);
        Checks.due("26 for ahead", z.ahead(7, 0, 25), Checks.STATE);
        Checks.due("26 for quarrel", z.quarrel(7, 0), Checks.STATE);
    }

    private static void howManyOrders() {
        FatherLists x = Checks.lists("abcdef", "ghijkl", "fg", "ga");
        Checks.due("one", x.orders(1), 1);
        Checks.due("two of six", x.orders(3), 924);
        Checks.due("one behind the other", x.orders(7), 1);
        Checks.due("g ahead of a: g is first", x.orders(11), 462);
        Checks.due("in a ring: none", x.orders(15), 0);
        FatherLists y = Checks.lists("ab", "ba", "bc", "zy");
        Checks.due("none of two that quarrel", y.orders(3), 0);
        Checks.due("none, with others", y.orders(15), 0);
        Checks.due("some without one of them", y.orders(13), 10);
        FatherLists z = Checks.lists("ab", "bc", "ca", "");
        Checks.due("none of three in a ring", z.orders(7), 0);
        Checks.due("any two can", z.orders(3) + z.orders(5) + z.orders(6), 3);
    }

    private static void fewest() {
        FatherLists x = Checks.lists("ab", "bc", "ca", "ac");
        Checks.due("two are fewer than three of a lesser set", x.quarrel(15, 1), 12);
        Checks.due("two", x.quarrel(15, 0), 2);
        Checks.due("three", x.quarrel(7, 1), 7);
        Checks.due("three", x.quarrel(7, 0), 3);
        Checks.due("these can all be right", x.quarrel(11, 0), Checks.NONE);
        FatherLists y = Checks.lists("ab", "bc", "cd", "da");
        Checks.due("four", y.quarrel(15, 0), 4);
        Checks.due("four", y.quarrel(15, 1), 15);
        for (int set : new int[] {7, 11, 13, 14}) {
            Checks.due("any three can all be right", y.quarrel(set, 1), Checks.NONE);
        }
        FatherLists z = Checks.lists(TWELVE, TURNED, "", "a");
        Checks.due("one alone never", z.quarrel(1, 0), Checks.NONE);
        Checks.due("one alone never", z.quarrel(2, 1), Checks.NONE);
        Checks.due("an empty one never", z.quarrel(13, 1), Checks.NONE);
        Checks.due("of twelve names", z.quarrel(15, 1), 3);
    }

    private static void leastSet() {
        FatherLists x = Checks.lists("ab", "cd", "dc", "ba");
        Checks.due("6 is less than 9", x.quarrel(15, 1), 6);
        Checks.due("9 without 2", x.quarrel(11, 1), 9);
        Checks.due("6 without 0", x.quarrel(14, 1), 6);
        FatherLists y = Checks.lists("ab", "ba", "ab", "ba");
        Checks.due("3", y.quarrel(15, 1), 3);
        Checks.due("6", y.quarrel(14, 1), 6);
        Checks.due("9", y.quarrel(13, 1), 9);
        Checks.due("12", y.quarrel(12, 1), 12);
        Checks.due("none", y.quarrel(10, 1), Checks.NONE);
        FatherLists z = Checks.lists("ab", "bc", "ca", "bc");
        Checks.due("7 is less than 13", z.quarrel(15, 1), 7);
        Checks.due("13", z.quarrel(13, 1), 13);
    }

    private static void allNoneSome() {
        FatherLists x = Checks.lists("ab", "bc", "cd", "xd");
        Checks.due("in all: in one list", x.ahead(1, 0, 1), 1);
        Checks.due("in none: in one list", x.ahead(1, 1, 0), 0);
        Checks.due("in all: by three lists", x.ahead(7, 0, 3), 1);
        Checks.due("in none: by three lists", x.ahead(7, 3, 0), 0);
        Checks.due("in some: a gap between", x.ahead(5, 0, 3), 2);
        Checks.due("in some: both ahead of one", x.ahead(15, 0, 23), 2);
        Checks.due("in some: the other way about", x.ahead(15, 23, 0), 2);
        FatherLists y = Checks.lists(TWELVE, "cz");
        Checks.due("of twelve, the first and the last", y.ahead(1, 0, 11), 1);
        Checks.due("of twelve, the last and the first", y.ahead(1, 11, 0), 0);
        Checks.listOf(y, 0, "abcdefghijk");
        Checks.due("z, the twelfth, behind a", y.ahead(3, 25, 0), 0);
        Checks.due("a ahead of z", y.ahead(3, 0, 25), 1);
        Checks.due("z and k", y.ahead(3, 25, 10), 2);
        FatherLists z = Checks.lists("ab", "cb", "ad", "cd");
        Checks.due("one behind both, and both free", z.ahead(15, 0, 2), 2);
        Checks.due("one behind both, and both free", z.ahead(15, 1, 3), 2);
        Checks.due("ahead", z.ahead(15, 2, 3), 1);
    }

    private static void aheadOfNone() {
        FatherLists x = Checks.lists("ab", "ba", "cd", "");
        Checks.due("two that quarrel", x.ahead(3, 0, 1), Checks.STATE);
        Checks.due("names that have no part in it", x.ahead(7, 2, 3), Checks.STATE);
        Checks.due("without one of them", x.ahead(5, 2, 3), 1);
        FatherLists y = Checks.lists("ab", "bc", "ca", "xy");
        Checks.due("three in a ring", y.ahead(15, 23, 24), Checks.STATE);
        Checks.due("two of them", y.ahead(11, 23, 24), 1);
        FatherLists z = Checks.lists(TWELVE, "xy");
        Checks.due("too many names", z.ahead(3, 0, 1), Checks.STATE);
        Checks.listOf(z, 1, "m");
        Checks.due("thirteen", z.ahead(3, 0, 1), Checks.STATE);
        Checks.listOf(z, 1, "l");
        Checks.due("twelve", z.ahead(3, 0, 1), 1);
    }

    // ---- calls

    private static void both() {
        FatherLists x = Checks.lists("abcz", "dba");
        Checks.due("gone", x.both(0, 1, 0), Checks.bits("cz"));
        Checks.due("come", x.both(0, 1, 1), Checks.bits("d"));
        Checks.due("same", x.both(0, 1, 2), 1);
        Checks.due("turned", x.both(0, 1, 3), 1);
        Checks.due("the first and the last", x.both(0, 3, 0), Checks.bits("abcz"));
        for (int what : new int[] {-1, 4, 5, Checks.NONE, 32, 256, Checks.LEAST_INT, Checks.MOST_INT}) {
            Checks.due("what = " + what, x.both(0, 1, what), Checks.BAD);
        }
        for (int i : Checks.NO_LIST) {
            for (int what = 0; what < 4; what++) {
                Checks.due("first " + i, x.both(i, 1, what), Checks.BAD);
                Checks.due("second " + i, x.both(1, i, what), Checks.BAD);
            }
        }
    }

    private static void orders() {
        FatherLists x = Checks.lists("a", "b", "c", "d");
        long[] rows = {1, 1, 2, 6, 24};
        for (int set = 1; set <= 15; set++) {
            Checks.due("set " + set, x.orders(set), rows[Integer.bitCount(set)]);
        }
        for (int set : Checks.NO_SET) {
            Checks.due("set " + set, x.orders(set), Checks.BAD);
        }
        Checks.listOf(x, 0, TWELVE);
        Checks.listOf(x, 3, "z");
        Checks.due("too many", x.orders(9), Checks.STATE);
        for (int set : Checks.NO_SET) {
            Checks.due("BAD is ahead of STATE", x.orders(set), Checks.BAD);
        }
    }

    private static void quarrel() {
        FatherLists x = Checks.lists("ab", "c", "ba", "d");
        Checks.due("how many", x.quarrel(15, 0), 2);
        Checks.due("the set", x.quarrel(15, 1), 5);
        Checks.due("none, how many", x.quarrel(11, 0), Checks.NONE);
        Checks.due("none, the set", x.quarrel(11, 1), Checks.NONE);
        for (int set = 1; set <= 15; set++) {
            Checks.due("set " + set, x.quarrel(set, 1), (set & 5) == 5 ? 5 : Checks.NONE);
        }
        for (int set : Checks.NO_SET) {
            Checks.due("set " + set, x.quarrel(set, 0), Checks.BAD);
            Checks.due("set " + set, x.quarrel(set, 1), Checks.BAD);
        }
        for (int what : new int[] {-1, 2, 3, Checks.NONE, 32, 256, Checks.LEAST_INT, Checks.MOST_INT}) {
            Checks.due("what = " + what, x.quarrel(15, what), Checks.BAD);
        }
    }

    private static void quarrelOfTooMany() {
        FatherLists x = Checks.lists(TWELVE, "ba", "m", "nopq");
        Checks.due("twelve", x.quarrel(3, 1), 3);
        Checks.due("thirteen, though two of them quarrel", x.quarrel(7, 1), Checks.STATE);
        Checks.due("thirteen that do not", x.quarrel(5, 0), Checks.STATE);
        Checks.due("few", x.quarrel(14, 0), Checks.NONE);
        Checks.due("BAD is ahead of STATE", x.quarrel(7, 2), Checks.BAD);
        Checks.due("BAD is ahead of STATE", x.quarrel(16 + 7, 0), Checks.BAD);
    }

    private static void ahead() {
        FatherLists x = Checks.lists("ab", "ba", "cd", TWELVE);
        Checks.due("c is in none of these", x.ahead(1, 0, 2), Checks.BAD);
        Checks.due("c is in none of these", x.ahead(1, 2, 0), Checks.BAD);
        Checks.due("both are in none of these", x.ahead(1, 2, 3), Checks.BAD);
        Checks.due("z is in none at all", x.ahead(15, 0, 25), Checks.BAD);
        Checks.due("one and the same", x.ahead(1, 0, 0), Checks.BAD);
        Checks.due("one and the same, in none", x.ahead(1, 25, 25), Checks.BAD);
        Checks.due("BAD is ahead of STATE: in none", x.ahead(3, 0, 2), Checks.BAD);
        Checks.due("BAD is ahead of STATE: the same", x.ahead(3, 0, 0), Checks.BAD);
        Checks.due("STATE", x.ahead(3, 0, 1), Checks.STATE);
        Checks.due("NONE is no name", x.ahead(1, Checks.NONE, 0), Checks.BAD);
        Checks.due("NONE is no name", x.ahead(1, 0, Checks.NONE), Checks.BAD);
        for (int set : Checks.NO_SET) {
            Checks.due("set " + set, x.ahead(set, 0, 1), Checks.BAD);
        }
        // Shifted by these, a bit of 0 or 1 would be found.
        Checks.due("name 32", x.ahead(1, 32, 1), Checks.BAD);
        Checks.due("name 33", x.ahead(1, 0, 33), Checks.BAD);
        FatherLists y = Checks.lists(TWELVE, "mn", "", "");
        Checks.due("BAD is ahead of too many: the same", y.ahead(3, 0, 0), Checks.BAD);
        Checks.due("BAD is ahead of too many: in none", y.ahead(3, 0, 25), Checks.BAD);
        Checks.due("of empty ones", y.ahead(12, 0, 1), Checks.BAD);
    }
}
