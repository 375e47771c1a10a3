/** A method a promise of DOC.md: ordinary inputs, the edges that it names, and wrong inputs. */
public final class FatherListsPromises {
    private static final int BAD = -1, STATE = -2, FULL = -3, NONE = -9, NO = -1000000;
    private static final int LEAST_INT = Integer.MIN_VALUE, MOST_INT = Integer.MAX_VALUE;

    private static int promise = 0;
    private static int wrong = 0;

    public static void main(String[] args) {
        promise = 1; newObject();
        promise = 2; type();
        promise = 3; clear();
        promise = 4; lawItems(); lawFaults(); lawChangesNothingAtFault();
        promise = 5; list();
        promise = 6; told();
        promise = 7; name();
        promise = 8; place();
        promise = 9; house();
        promise = 10; held();
        promise = 11; sayTakes(); sayMoves(); sayDropsWeak(); sayHolds(); sayShortLists(); sayRefuses();
        promise = 12; said();
        promise = 13; foretold();
        promise = 14; both();
        promise = 15; orders();
        promise = 16; quarrel();
        promise = 17; ahead();
        promise = 18; date();
        promise = 19; link();
        promise = 20; span();
        promise = 21; lost();
        promise = 22; court();
        promise = 23; worth();
        promise = 24; keep();
        promise = 25; back();
        promise = 26; count();
        promise = 27; trace();
        System.out.println(wrong == 0 ? "all promises hold" : wrong + " answers are wrong");
        if (wrong != 0) {
            System.exit(1);
        }
    }

    // ---- helpers

    private static void due(String what, long got, long want) {
        if (got != want) {
            wrong++;
            System.out.println("promise " + promise + ": " + what + " answered " + got + ", due is " + want);
        }
    }

    private static void typed(FatherLists x, String text) {
        for (int k = 0; k < text.length(); k++) {
            x.type(text.charAt(k), 1);
        }
    }

    private static int lawOf(FatherLists x, String text) {
        x.clear();
        typed(x, text);
        return x.law();
    }

    private static int listOf(FatherLists x, int i, String text) {
        x.clear();
        typed(x, text);
        return x.list(i);
    }

    private static FatherLists lists(String... texts) {
        FatherLists x = new FatherLists();
        for (int i = 0; i < texts.length; i++) {
            due("list " + texts[i], listOf(x, i, texts[i]), texts[i].length());
        }
        return x;
    }

    private static void houseOf(FatherLists x, int h, char claim, int strength) {
        x.house(h, 1, claim - 'a');
        x.house(h, 0, strength);
    }

    private static String shown(FatherLists x, int i) {
        StringBuilder b = new StringBuilder();
        for (int k = 0; k < x.name(i, -1); k++) {
            b.append((char) ('a' + x.name(i, k)));
        }
        return b.toString();
    }

    private static void dueList(String what, FatherLists x, int i, String want) {
        String got = shown(x, i);
        if (!got.equals(want)) {
            wrong++;
            System.out.println("promise " + promise + ": " + what + " left " + got + ", due is " + want);
        }
    }

    private static int bits(String names) {
        int bits = 0;
        for (int k = 0; k < names.length(); k++) {
            bits |= 1 << names.charAt(k) - 'a';
        }
        return bits;
    }

    private static void dueSaid(FatherLists x, String taken, String moved, String dropped) {
        due("taken", x.said(0), bits(taken));
        due("moved", x.said(1), bits(moved));
        due("dropped", x.said(2), bits(dropped));
    }

    // ---- the promises

    private static void newObject() {
        FatherLists x = new FatherLists();
        int[] law = {12, 1, 0, 50, 80};
        for (int k = 0; k < law.length; k++) {
            due("told " + k, x.told(k), law[k]);
        }
        for (int i = 0; i < 4; i++) {
            due("size", x.name(i, -1), 0);
        }
        for (int h = 0; h < 6; h++) {
            due("claim", x.house(h, 1, NONE), NONE);
            due("strength", x.house(h, 0, 0), 0);
        }
        for (int n = 0; n < 26; n++) {
            due("date", x.date(n, NONE), NONE);
        }
        due("low", x.link(0, 20), 20);
        due("high", x.link(1, 35), 35);
        dueSaid(x, "", "", "");
        due("trace", x.trace(), 0);
        for (int k = 0; k < 4; k++) {
            due("count", x.count(k), 0);
        }
        due("back 0", x.back(0), STATE);
        due("back 1", x.back(1), STATE);
    }

    private static void type() {
        FatherLists x = new FatherLists();
        due("two of three bytes", x.type(0x7A6162L, 2), 2);
        due("list", x.list(0), 2);
        dueList("highest first", x, 0, "ab");
        due("eight", x.type(0x6162636465666768L, 8), 8);
        due("more", x.type(0x696AL, 2), 10);
        due("list", x.list(0), 10);
        dueList("ten", x, 0, "abcdefghij");
        due("n 0", x.type(97, 0), BAD);
        due("n 9", x.type(97, 9), BAD);
        due("n least", x.type(97, LEAST_INT), BAD);
        due("n most", x.type(97, MOST_INT), BAD);
        due("nothing came", x.count(1), 0);
        due("a byte above 127", x.type(-1L, 1), 1);
        due("no letter", x.list(0), -10);
        x.clear();
        for (int k = 1; k <= 24; k++) {
            due("many", x.type(0, 8), 8 * k);
        }
        due("to 199", x.type(0, 7), 199);
        due("one too many", x.type(0, 2), FULL);
        due("BAD is ahead of FULL", x.type(0, 9), BAD);
        due("to 200", x.type(0, 1), 200);
        due("full", x.type(0, 1), FULL);
        due("still 200", x.count(1), 200);
        due("cleared", x.clear(), 200);
        due("again", x.type(0, 1), 1);
    }

    private static void clear() {
        FatherLists x = new FatherLists();
        due("empty", x.clear(), 0);
        typed(x, "abc");
        due("three", x.clear(), 3);
        due("none left", x.clear(), 0);
        due("an empty list", x.list(0), 0);
    }

    private static void dueLaw(FatherLists x, int... want) {
        for (int k = 0; k < want.length; k++) {
            due("told " + k, x.told(k), want[k]);
        }
    }

    private static void lawItems() {
        FatherLists x = new FatherLists();
        due("all", lawOf(x, "stand 1;take 2;weak 3;far 4;hold 5;"), 5);
        dueLaw(x, 5, 4, 3, 2, 1);
        due("the text is empty", x.count(1), 0);
        due("one alone", lawOf(x, "take 7;"), 1);
        dueLaw(x, 12, 1, 0, 7, 80);
        due("what is not told is as at first", lawOf(x, "far 0;"), 1);
        dueLaw(x, 12, 0, 0, 50, 80);
        due("blanks", lawOf(x, "  hold   2 ;  take 0; "), 2);
        dueLaw(x, 2, 1, 0, 0, 80);
        due("no blanks", lawOf(x, "hold12;far6;weak99;take99;stand99;"), 5);
        dueLaw(x, 12, 6, 99, 99, 99);
        due("no items", lawOf(x, ""), 0);
        dueLaw(x, 12, 1, 0, 50, 80);
        lawOf(x, "hold 3;");
        due("blanks alone", lawOf(x, "   "), 0);
        due("the text is empty", x.count(1), 0);
        dueLaw(x, 12, 1, 0, 50, 80);
        String long200 = "hold 7;" + " ".repeat(187) + "far 2;";
        due("200 bytes", lawOf(x, long200), 2);
        dueLaw(x, 7, 2, 0, 50, 80);
    }

    private static void dueFault(String text, int fault) {
        FatherLists x = new FatherLists();
        due("law '" + text + "'", lawOf(x, text), -10 - fault);
        due("the text stays", x.count(1), text.length());
        dueLaw(x, 12, 1, 0, 50, 80);
    }

    private static void lawFaults() {
        dueFault("hold 1;", 5);
        dueFault("hold 13;", 5);
        dueFault("far 7;", 4);
        dueFault("take 100;", 5);
        dueFault("take 99999999999999999999;", 5);
        dueFault("take 05;", 5);
        dueFault("take 00;", 5);
        dueFault("hold", 4);
        dueFault("hold ", 5);
        dueFault("hold 5", 6);
        dueFault("hold 5   ", 9);
        dueFault("hold;", 4);
        dueFault("hold 5 6;", 7);
        dueFault("hold 5a;", 6);
        dueFault("hold far 5;", 5);
        dueFault("5;", 0);
        dueFault(";", 0);
        dueFault("hold 5;;", 7);
        dueFault("holds 5;", 0);
        dueFault("hol 5;", 0);
        dueFault("cold 5;", 0);
        dueFault("holt 5;", 0);
        dueFault("  fa 1;", 2);
        dueFault("Hold 5;", 0);
        dueFault("holD 5;", 0);
        dueFault("hold\t5;", 4);
        dueFault("hold -5;", 5);
        dueFault("hold 5;far 1;hold 5;", 13);
        dueFault("hold 5;far 1;weak 0;take 0;stand 0;hold", 35);
        dueFault("hold 5;far 1;weak 0;take 0;stand 0; x", 36);
        dueFault("hold 5;" + (char) 255, 7);
        dueFault("" + (char) 0, 0);
    }

    private static void lawChangesNothingAtFault() {
        FatherLists x = new FatherLists();
        lawOf(x, "hold 3;far 2;weak 4;take 5;stand 6;");
        due("fault at the end", lawOf(x, "hold 9;far 0;weak"), -27);
        dueLaw(x, 3, 2, 4, 5, 6);
        due("the text stays", x.clear(), 17);
    }

    private static void list() {
        FatherLists x = new FatherLists();
        due("three", listOf(x, 3, "zab"), 3);
        dueList("order", x, 3, "zab");
        due("the text is empty", x.count(1), 0);
        due("told anew", listOf(x, 3, "q"), 1);
        dueList("anew", x, 3, "q");
        due("twelve", listOf(x, 0, "abcdefghijkl"), 12);
        due("thirteen", listOf(x, 0, "mbcdefghijkla"), -22);
        due("thirteenth no letter", listOf(x, 0, "abcdefghijkl "), -22);
        due("twice", listOf(x, 0, "aba"), -12);
        due("blank", listOf(x, 0, " ab"), -10);
        due("upper", listOf(x, 0, "aB"), -11);
        due("below a", listOf(x, 0, "ab`"), -12);
        due("above z", listOf(x, 0, "ab{"), -12);
        due("above 127", listOf(x, 0, "a" + (char) 225), -11);
        dueList("nothing changed", x, 0, "abcdefghijkl");
        due("the text stays", x.count(1), 2);
        due("BAD is ahead of FAULT", x.list(4), BAD);
        due("below", x.list(-1), BAD);
        due("least", x.list(LEAST_INT), BAD);
        due("most", x.list(MOST_INT), BAD);
        due("the text stays", x.clear(), 2);
        due("none", x.list(0), 0);
        dueList("empty", x, 0, "");
    }

    private static void told() {
        FatherLists x = new FatherLists();
        lawOf(x, "hold 11;far 3;weak 21;take 31;stand 41;");
        dueLaw(x, 11, 3, 21, 31, 41);
        due("5", x.told(5), BAD);
        due("-1", x.told(-1), BAD);
        due("least", x.told(LEAST_INT), BAD);
    }

    private static void name() {
        FatherLists x = lists("", "bza");
        due("size", x.name(1, -1), 3);
        due("first", x.name(1, 0), 1);
        due("second", x.name(1, 1), 25);
        due("last", x.name(1, 2), 0);
        due("behind", x.name(1, 3), BAD);
        due("-2", x.name(1, -2), BAD);
        due("most", x.name(1, MOST_INT), BAD);
        due("of an empty one", x.name(0, 0), BAD);
        due("list 4", x.name(4, -1), BAD);
        due("list -1", x.name(-1, -1), BAD);
    }

    private static void place() {
        FatherLists x = lists("bza");
        due("b", x.place(0, 1), 0);
        due("a", x.place(0, 0), 2);
        due("none", x.place(0, 2), NONE);
        due("other list", x.place(1, 1), NONE);
        due("26", x.place(0, 26), BAD);
        due("-1", x.place(0, -1), BAD);
        due("NONE", x.place(0, NONE), BAD);
        due("list 4", x.place(4, 1), BAD);
        due("list -1", x.place(-1, 1), BAD);
        listOf(x, 0, "c");
        due("told anew", x.place(0, 0), NONE);
    }

    private static void house() {
        FatherLists x = new FatherLists();
        due("strength", x.house(5, 0, 99), 0);
        due("strength was", x.house(5, 0, 0), 99);
        due("claim", x.house(5, 1, 25), NONE);
        due("claim was", x.house(5, 1, 0), 25);
        due("no claim", x.house(5, 1, NONE), 0);
        due("none was", x.house(5, 1, 3), NONE);
        due("strength stays", x.house(5, 0, 7), 0);
        due("other house", x.house(4, 0, 0), 0);
        due("h 6", x.house(6, 0, 0), BAD);
        due("h -1", x.house(-1, 0, 0), BAD);
        due("what 2", x.house(0, 2, 0), BAD);
        due("what -1", x.house(0, -1, 0), BAD);
        due("strength 100", x.house(0, 0, 100), BAD);
        due("strength -1", x.house(0, 0, -1), BAD);
        due("strength NONE", x.house(0, 0, NONE), BAD);
        due("claim 26", x.house(0, 1, 26), BAD);
        due("claim -1", x.house(0, 1, -1), BAD);
        due("nothing changed", x.house(0, 0, 0), 0);
        due("nothing changed", x.house(0, 1, NONE), NONE);
    }

    private static void held() {
        FatherLists x = new FatherLists();
        houseOf(x, 0, 'c', 10);
        houseOf(x, 3, 'c', 99);
        houseOf(x, 5, 'c', 1);
        houseOf(x, 4, 'd', 5);
        due("three", x.held(2), 110);
        due("one", x.held(3), 5);
        due("none", x.held(0), 0);
        due("26", x.held(26), BAD);
        due("-1", x.held(-1), BAD);
        due("NONE", x.held(NONE), BAD);
    }

    private static void sayTakes() {
        FatherLists x = lists("abc");
        houseOf(x, 0, 'x', 50);
        houseOf(x, 1, 'y', 49);
        houseOf(x, 2, 'z', 79);
        houseOf(x, 3, 'x', 60);
        houseOf(x, 4, 'b', 79);
        houseOf(x, 5, 'd', 70);
        due("size", x.say(0, 3), 6);
        dueList("x, then z ahead of it; the chief last", x, 0, "azxbcd");
        dueSaid(x, "xz", "", "");
        FatherLists y = lists("ab");
        lawOf(y, "take 0;");
        y.house(0, 1, 4);
        due("strength 0 does, by take 0", y.say(0, NONE), 3);
        dueList("e", y, 0, "aeb");
    }

    private static void sayMoves() {
        FatherLists x = lists("abcde");
        houseOf(x, 0, 'e', 80);
        houseOf(x, 1, 'd', 79);
        houseOf(x, 2, 'b', 99);
        houseOf(x, 3, 'a', 99);
        houseOf(x, 4, 'e', 99);
        due("size", x.say(0, NONE), 5);
        dueList("e twice, none that is at F", x, 0, "abecd");
        dueSaid(x, "", "e", "");
        FatherLists y = lists("abcd");
        lawOf(y, "far 0;");
        houseOf(y, 0, 'b', 80);
        houseOf(y, 1, 'a', 80);
        y.say(0, NONE);
        dueList("b to 0, a back", y, 0, "abcd");
        dueSaid(y, "", "ab", "");
    }

    private static void sayDropsWeak() {
        FatherLists x = lists("abcdef");
        lawOf(x, "weak 10;far 2;");
        houseOf(x, 0, 'b', 0);
        houseOf(x, 1, 'c', 9);
        houseOf(x, 2, 'd', 10);
        houseOf(x, 3, 'e', 9);
        houseOf(x, 4, 'e', 11);
        houseOf(x, 5, 'g', 1);
        due("size", x.say(0, 6), 6);
        dueList("c alone is dropped, the chief is not", x, 0, "abdefg");
        dueSaid(x, "", "", "c");
        lawOf(x, "weak 99;take 50;");
        houseOf(x, 5, 'z', 98);
        x.say(0, NONE);
        due("taken", x.said(0), bits("z"));
        due("moved not, at place F", x.said(1), 0);
        due("dropped what was taken, too", x.said(2), bits("bdez"));
        dueList("left", x, 0, "afg");
    }

    private static void sayHolds() {
        FatherLists x = lists("abcdef");
        lawOf(x, "hold 4;far 1;");
        houseOf(x, 0, 'b', 30);
        houseOf(x, 1, 'c', 20);
        houseOf(x, 2, 'e', 20);
        due("size", x.say(0, 25), 4);
        dueList("d, f, then the first of 20", x, 0, "abez");
        dueSaid(x, "", "", "cdf");
        FatherLists y = lists("abcdefghijkl");
        for (int h = 0; h < 6; h++) {
            houseOf(y, h, (char) ('p' + h), 99);
        }
        due("nineteen ahead of dropping", y.say(0, 25), 12);
        dueSaid(y, "pqrstu", "pqrstu", "bcdefgh");
        // Each pair of neighbours that were taken changes places twice.
        dueList("what is left", y, 0, "autsrqpijklz");
        FatherLists z = lists("abc");
        lawOf(z, "hold 2;far 0;");
        due("without a chief the last stays, too", z.say(0, NONE), 2);
        dueList("bc", z, 0, "bc");
    }

    private static void sayShortLists() {
        FatherLists x = lists("a");
        lawOf(x, "far 6;hold 2;weak 99;");
        houseOf(x, 0, 'p', 50);
        houseOf(x, 1, 'q', 60);
        due("to the end of a shorter one", x.say(0, 25), 4);
        dueList("FAR is not dropped", x, 0, "apqz");
        dueSaid(x, "pq", "", "");
        FatherLists y = lists("abcdef");
        lawOf(y, "far 6;hold 2;");
        due("it stays longer", y.say(0, 25), 7);
        due("one behind FAR goes", y.say(0, 24), 7);
        dueSaid(y, "", "", "z");
        FatherLists z = new FatherLists();
        due("an empty one", z.say(3, NONE), 0);
        due("an empty one, with a chief", z.say(3, 5), 1);
        dueList("the chief alone", z, 3, "f");
    }

    private static void sayRefuses() {
        FatherLists x = lists("ab");
        houseOf(x, 0, 'z', 99);
        due("in it", x.say(0, 1), STATE);
        due("26", x.say(0, 26), BAD);
        due("-1", x.say(0, -1), BAD);
        due("list 4", x.say(4, 1), BAD);
        due("list -1", x.say(-1, NONE), BAD);
        dueList("nothing changed", x, 0, "ab");
        dueSaid(x, "", "", "");
    }

    private static void said() {
        FatherLists x = lists("abc", "d");
        houseOf(x, 0, 'z', 60);
        x.say(0, NONE);
        dueSaid(x, "z", "", "");
        x.foretold(1, 1, 99, 0);
        x.say(0, 0);
        x.keep(0);
        x.back(0);
        dueSaid(x, "z", "", "");
        houseOf(x, 1, 'c', 99);
        x.say(0, NONE);
        dueSaid(x, "", "c", "");
        due("3", x.said(3), BAD);
        due("-1", x.said(-1), BAD);
    }

    private static void foretold() {
        FatherLists x = lists("abcde");
        lawOf(x, "hold 5;far 1;weak 5;");
        houseOf(x, 0, 'z', 10);
        houseOf(x, 1, 'd', 20);
        houseOf(x, 2, 'c', 30);
        due("as it is", x.foretold(0, 0, 10, 0), 0);
        due("taken", x.foretold(0, 0, 50, 0), bits("z"));
        due("then b is dropped", x.foretold(0, 0, 50, 2), bits("b"));
        due("z at F is not moved", x.foretold(0, 0, 99, 1), 0);
        due("moved", x.foretold(0, 1, 80, 1), bits("d"));
        due("not moved", x.foretold(0, 1, 79, 1), 0);
        due("fallen", x.foretold(0, 2, 0, 2), bits("c"));
        due("not fallen", x.foretold(0, 2, 5, 2), 0);
        lawOf(x, "hold 4;far 2;");
        due("HELD is by what would be", x.foretold(0, 1, 31, 2), bits("c"));
        due("HELD as it is", x.foretold(0, 5, 31, 2), bits("d"));
        dueList("nothing changed", x, 0, "abcde");
        due("strength stays", x.house(1, 0, 20), 20);
        dueSaid(x, "", "", "");
        due("list", x.foretold(4, 0, 0, 0), BAD);
        due("list", x.foretold(-1, 0, 0, 0), BAD);
        due("house", x.foretold(0, 6, 0, 0), BAD);
        due("house", x.foretold(0, -1, 0, 0), BAD);
        due("strength", x.foretold(0, 0, 100, 0), BAD);
        due("strength", x.foretold(0, 0, -1, 0), BAD);
        due("what", x.foretold(0, 0, 0, 3), BAD);
        due("what", x.foretold(0, 0, 0, -1), BAD);
    }

    private static void both() {
        FatherLists x = lists("abcdefg", "gzbdcfe", "");
        due("gone", x.both(0, 1, 0), bits("a"));
        due("come", x.both(0, 1, 1), bits("z"));
        due("same", x.both(0, 1, 2), 3);
        due("turned", x.both(0, 1, 3), 3);
        due("gone, the other way", x.both(1, 0, 0), bits("z"));
        due("same, the other way", x.both(1, 0, 2), 3);
        due("one and the same", x.both(0, 0, 2), 7);
        due("one and the same", x.both(0, 0, 3), 0);
        due("an empty one", x.both(0, 2, 0), bits("abcdefg"));
        due("an empty one", x.both(0, 2, 2), 0);
        due("two empty ones", x.both(2, 3, 3), 0);
        due("what 4", x.both(0, 1, 4), BAD);
        due("what -1", x.both(0, 1, -1), BAD);
        due("list", x.both(4, 0, 0), BAD);
        due("list", x.both(0, -1, 0), BAD);
    }

    private static void orders() {
        FatherLists x = lists("abc", "def", "ghi", "jkl");
        due("one", x.orders(1), 1);
        due("two", x.orders(3), 20);
        due("three", x.orders(7), 1680);
        due("four", x.orders(15), 369600);
        FatherLists y = lists("abcdefghijkl", "ac", "ca", "m");
        due("twelve", y.orders(3), 1);
        due("thirteen", y.orders(9), STATE);
        due("thirteen that quarrel", y.orders(15), STATE);
        due("two that quarrel", y.orders(6), 0);
        due("set 0", y.orders(0), BAD);
        due("set 16", y.orders(16), BAD);
        due("set -1", y.orders(-1), BAD);
        FatherLists z = lists("az", "mz", "zq", "");
        due("names with gaps", z.orders(15), 2);
        due("an empty one", z.orders(8), 1);
    }

    private static void quarrel() {
        FatherLists x = lists("ab", "bc", "ca", "ba");
        due("how many", x.quarrel(15, 0), 2);
        due("which", x.quarrel(15, 1), 9);
        due("three", x.quarrel(7, 0), 3);
        due("three", x.quarrel(7, 1), 7);
        due("none", x.quarrel(3, 0), NONE);
        due("none", x.quarrel(3, 1), NONE);
        due("one alone", x.quarrel(8, 1), NONE);
        FatherLists y = lists("ab", "ba", "ab", "ba");
        due("the least set", y.quarrel(15, 1), 3);
        due("the least set of these", y.quarrel(14, 1), 6);
        due("of these", y.quarrel(13, 1), 9);
        FatherLists z = lists("ab", "bc", "cd", "da");
        due("four", z.quarrel(15, 0), 4);
        due("four", z.quarrel(15, 1), 15);
        FatherLists w = lists("abcdefghijkl", "ba", "m");
        due("twelve", w.quarrel(3, 1), 3);
        due("thirteen", w.quarrel(7, 1), STATE);
        due("BAD is ahead", w.quarrel(7, 2), BAD);
        due("what -1", w.quarrel(3, -1), BAD);
        due("set 0", w.quarrel(0, 0), BAD);
        due("set 16", w.quarrel(16, 0), BAD);
    }

    private static void ahead() {
        FatherLists x = lists("ab", "bc", "cd", "xd");
        due("through three lists", x.ahead(7, 0, 3), 1);
        due("the other way", x.ahead(7, 3, 0), 0);
        due("some", x.ahead(15, 23, 0), 2);
        due("some", x.ahead(15, 0, 23), 2);
        due("of these lists alone", x.ahead(5, 0, 3), 2);
        due("not in these", x.ahead(7, 0, 23), BAD);
        due("not in these", x.ahead(7, 23, 0), BAD);
        due("the same", x.ahead(7, 0, 0), BAD);
        due("26", x.ahead(7, 26, 0), BAD);
        due("-1", x.ahead(7, 0, -1), BAD);
        due("32", x.ahead(7, 32, 1), BAD);
        due("set 0", x.ahead(0, 0, 1), BAD);
        due("set 16", x.ahead(16, 0, 1), BAD);
        FatherLists y = lists("ab", "ba", "cdefghijklmn");
        due("there are none", y.ahead(3, 0, 1), STATE);
        due("BAD is ahead of STATE", y.ahead(3, 0, 2), BAD);
        due("too many", y.ahead(5, 0, 1), STATE);
        due("twelve", y.ahead(4, 2, 13), 1);
    }

    private static void date() {
        FatherLists x = new FatherLists();
        due("first", x.date(0, 0), NONE);
        due("last", x.date(0, 2000), 0);
        due("none", x.date(0, NONE), 2000);
        due("again", x.date(0, 5), NONE);
        due("2001", x.date(0, 2001), BAD);
        due("-1", x.date(0, -1), BAD);
        due("name 26", x.date(26, 0), BAD);
        due("name -1", x.date(-1, 0), BAD);
        due("nothing changed", x.date(0, 5), 5);
        due("another name", x.date(25, 1), NONE);
    }

    private static void link() {
        FatherLists x = new FatherLists();
        due("low to high", x.link(0, 35), 20);
        due("above high", x.link(0, 36), BAD);
        due("below low", x.link(1, 34), BAD);
        due("high 60", x.link(1, 60), 35);
        due("high 61", x.link(1, 61), BAD);
        due("low 1", x.link(0, 1), 35);
        due("low 0", x.link(0, 0), BAD);
        due("high 1", x.link(1, 1), 60);
        due("high 0", x.link(1, 0), BAD);
        due("what 2", x.link(2, 1), BAD);
        due("what -1", x.link(-1, 1), BAD);
        due("low stays", x.link(0, 1), 1);
        due("high stays", x.link(1, 1), 1);
    }

    private static void span() {
        FatherLists x = lists("abcde", "ax", "pq");
        x.date(2, 10);
        due("below 0", x.span(0, 0, 0), -60);
        due("below 0", x.span(0, 0, 1), -30);
        due("earliest", x.span(0, 4, 0), 50);
        due("latest", x.span(0, 4, 1), 80);
        due("itself", x.span(0, 2, 0), 10);
        due("none of this list", x.span(1, 0, 0), NO);
        due("none of this list", x.span(1, 1, 1), NO);
        x.date(0, 0);
        due("the first dated", x.span(1, 1, 0), 20);
        due("the first dated", x.span(1, 1, 1), 35);
        due("by all dates of the list", x.span(0, 1, 0), NO);
        x.date(0, NONE);
        x.date(4, 80);
        due("both bind", x.span(0, 3, 0), 45);
        due("both bind", x.span(0, 3, 1), 45);
        x.date(4, 81);
        due("they can't be", x.span(0, 0, 0), NO);
        x.date(4, 49);
        due("they can't be", x.span(0, 0, 1), NO);
        x.date(4, 50);
        due("they can", x.span(0, 3, 1), 30);
        x.link(0, 1);
        due("by links of now", x.span(0, 3, 1), 45);
        due("place 5", x.span(0, 5, 0), NO);
        due("place -1", x.span(0, -1, 0), NO);
        due("what 2", x.span(0, 0, 2), NO);
        due("what -1", x.span(0, 0, -1), NO);
        due("list 4", x.span(4, 0, 0), NO);
        due("list -1", x.span(-1, 0, 0), NO);
        due("no place", x.span(3, 0, 0), NO);
    }

    private static void lost() {
        FatherLists x = lists("abcde");
        due("no dates", x.lost(0), 0);
        x.date(0, 100);
        due("one date", x.lost(0), 0);
        x.date(1, 120);
        due("links do", x.lost(0), 0);
        x.date(1, 136);
        due("36 by no number", x.lost(0), STATE);
        x.date(1, 140);
        due("one", x.lost(0), 1);
        x.date(4, 300);
        due("160 by three links and two more, added", x.lost(0), 3);
        x.date(4, 245);
        due("105 by three", x.lost(0), 1);
        x.date(4, 199);
        due("too few years", x.lost(0), STATE);
        x.date(4, 140);
        due("no years", x.lost(0), STATE);
        x.date(4, 0);
        due("turned", x.lost(0), STATE);
        FatherLists y = lists("ab");
        y.link(0, 1);
        y.link(1, 1);
        y.date(0, 0);
        y.date(1, 2000);
        due("most", y.lost(0), 1999);
        due("list 4", y.lost(4), BAD);
        due("list -1", y.lost(-1), BAD);
        due("an empty one", y.lost(3), 0);
    }

    private static void court() {
        FatherLists x = lists("ab", "ba", "a", "c");
        houseOf(x, 0, 'a', 0);
        houseOf(x, 1, 'b', 0);
        houseOf(x, 5, 'a', 0);
        due("ahead", x.court(1, 0, 1), 1);
        due("behind", x.court(2, 0, 1), -1);
        due("there, the other is not", x.court(4, 0, 1), 1);
        due("not there, the other is", x.court(4, 1, 0), -1);
        due("neither", x.court(8, 0, 1), 0);
        due("added", x.court(5, 0, 1), 2);
        due("all", x.court(15, 0, 1), 1);
        due("the same claim", x.court(15, 0, 5), 0);
        due("the same house", x.court(15, 1, 1), 0);
        due("no claim", x.court(1, 0, 2), NO);
        due("no claim", x.court(1, 2, 0), NO);
        due("set 0", x.court(0, 0, 1), NO);
        due("set 16", x.court(16, 0, 1), NO);
        due("house 6", x.court(1, 6, 1), NO);
        due("house -1", x.court(1, 0, -1), NO);
    }

    private static void worth() {
        FatherLists x = lists("ab", "a", "za", "q");
        houseOf(x, 0, 'a', 30);
        houseOf(x, 3, 'a', 12);
        due("NAME", x.worth(0, 0), 3);
        due("CLAIMED", x.worth(1, 0), 45);
        due("JOINED", x.worth(2, 0), 7);
        due("STOOD", x.worth(3, 0), 49);
        due("DATED", x.worth(4, 0), 3);
        due("FAR", x.worth(5, 0), 1);
        x.date(0, 0);
        due("DATED", x.worth(4, 0), 10);
        due("FAR", x.worth(5, 0), 5);
        due("a name of none", x.worth(3, 20), 0);
        due("kind 6", x.worth(6, 0), BAD);
        due("kind -1", x.worth(-1, 0), BAD);
        due("name 26", x.worth(0, 26), BAD);
        due("name -1", x.worth(0, -1), BAD);
    }

    private static void keep() {
        FatherLists x = lists("ab", "ac");
        due("each in each list", x.keep(1), 4);
        due("2", x.keep(2), BAD);
        due("-1", x.keep(-1), BAD);
        due("the other was not kept", x.back(0), STATE);
        listOf(x, 3, "xyz");
        due("kept again", x.keep(1), 7);
        listOf(x, 3, "");
        due("the newer", x.back(1), 7);
    }

    private static void back() {
        FatherLists x = lists("ab", "", "xyz");
        houseOf(x, 2, 'b', 60);
        x.date(4, 44);
        x.keep(0);
        listOf(x, 0, "");
        listOf(x, 1, "q");
        houseOf(x, 2, 'c', 1);
        x.date(4, NONE);
        x.date(5, 6);
        lawOf(x, "hold 3;");
        x.link(0, 2);
        x.worth(0, 0);
        typed(x, "abc");
        x.keep(1);
        due("names", x.back(0), 5);
        dueList("list", x, 0, "ab");
        dueList("list", x, 1, "");
        dueList("list", x, 2, "xyz");
        due("strength", x.house(2, 0, 60), 60);
        due("claim", x.house(2, 1, 1), 1);
        due("date", x.date(4, 44), 44);
        due("date", x.date(5, NONE), NONE);
        due("the law is not kept", x.told(0), 3);
        due("links are not kept", x.link(0, 2), 2);
        due("the trace is not kept", x.trace(), 1);
        due("the text is not kept", x.count(1), 3);
        x.say(0, 20);
        x.house(2, 0, 1);
        due("an image stays as it was", x.back(0), 5);
        dueList("list", x, 0, "ab");
        due("strength", x.house(2, 0, 60), 60);
        due("the other", x.back(1), 4);
        dueList("list", x, 1, "q");
        due("2", x.back(2), BAD);
        due("-1", x.back(-1), BAD);
    }

    private static void count() {
        FatherLists x = lists("ab", "bc", "b");
        houseOf(x, 0, 'a', 0);
        houseOf(x, 1, 'a', 0);
        x.house(2, 0, 50);
        x.date(0, 0);
        x.date(25, 9);
        x.date(3, 9);
        x.date(3, NONE);
        typed(x, "hold");
        due("names", x.count(0), 5);
        due("bytes", x.count(1), 4);
        due("houses", x.count(2), 2);
        due("dates", x.count(3), 2);
        due("4", x.count(4), BAD);
        due("-1", x.count(-1), BAD);
    }

    private static void trace() {
        long[] added = {1, 11, 101, 1101, 10001, 110001};
        FatherLists x = new FatherLists();
        long sum = 0;
        for (int round = 0; round < 2; round++) {
            for (int kind = 0; kind < added.length; kind++) {
                x.worth(kind, kind);
                sum += added[kind];
                due("after kind " + kind, x.trace(), sum);
            }
        }
        x.worth(6, 0);
        x.worth(0, 26);
        x.worth(-1, -1);
        due("a refused one adds nothing", x.trace(), sum);
    }
}
