/** Section 1 of the document and promises 2 to 8, sentence by sentence. */
public final class FatherListsTexts {
    private static final String TWELVE = "abcdefghijkl";
    private static final String ALL_ITEMS = "hold 3;far 2;weak 4;take 5;stand 6;";

    public static void main(String[] args) {
        Checks.of("NAMES are a .. z (0 ..", FatherListsTexts::names);
        Checks.of("LISTS 0 .. 3 (empty at first)", FatherListsTexts::fourLists);
        Checks.of("have 0 .. 12 NAMES, each once", FatherListsTexts::noneToTwelve);
        Checks.of("places 0 (the first father) and on", FatherListsTexts::places);
        Checks.of("THE LAW is a text (200 bytes at most)", FatherListsTexts::lawOf200Bytes);
        Checks.of("read byte by byte, blanks (32) between TOKENS", FatherListsTexts::blanks);
        Checks.of("ITEMS, each at most once", FatherListsTexts::itemsAtMostOnce);
        Checks.of("each ended by ; :", FatherListsTexts::itemsAreEnded);
        Checks.of("hold N (2 .. 12; at first 12)", () -> item("hold", 0, 12, 2, 12));
        Checks.of("far F (0 .. 6; 1)", () -> item("far", 1, 1, 0, 6));
        Checks.of("weak W (0 .. 99; 0)", () -> item("weak", 2, 0, 0, 99));
        Checks.of("take T (0 .. 99; 50)", () -> item("take", 3, 50, 0, 99));
        Checks.of("stand S (0 .. 99; 80)", () -> item("stand", 4, 80, 0, 99));
        Checks.of("What is not told is as at first.", FatherListsTexts::notToldIsAsAtFirst);
        Checks.of("letters a .. z, each once, 12 at most; nothing else.", FatherListsTexts::listText);
        Checks.of("TOKENS of THE LAW are words of letters a .. z (hold, far, weak, take, stand), NUMBERS and ;",
            FatherListsTexts::tokens);
        Checks.of("the place of the first byte of the first TOKEN that can't stand there", FatherListsTexts::cannotStand);
        Checks.of("an ITEM that was told", FatherListsTexts::toldAlready);
        Checks.of("a NUMBER beyond what it may be, too", FatherListsTexts::beyond);
        Checks.of("of a byte that begins none", FatherListsTexts::beginsNone);
        Checks.of("a word that is none of these", FatherListsTexts::wordOfNone);
        Checks.of("a NUMBER above 99", FatherListsTexts::above99);
        Checks.of("or with a 0 ahead of others", FatherListsTexts::zeroAhead);
        Checks.of("the text's length, if it ends too early", FatherListsTexts::endsTooEarly);
        Checks.of("the first byte that is no letter", FatherListsTexts::listNoLetter);
        Checks.of("is there already", FatherListsTexts::listThereAlready);
        Checks.of("or is one too many", FatherListsTexts::listOneTooMany);
        Checks.of("The lowest n (1 .. 8) bytes of v", FatherListsTexts::lowestBytes);
        Checks.of("the highest of them first", FatherListsTexts::highestFirst);
        Checks.of("come to THE TEXT: how many it has. BAD; FULL.", FatherListsTexts::typeFull);
        Checks.of("THE TEXT is empty: how many bytes it had.", FatherListsTexts::clear);
        Checks.of("THE TEXT becomes THE LAW, and is empty then: how many ITEMS.", FatherListsTexts::becomesLaw);
        Checks.of("how many ITEMS. -10 less FAULT: nothing changes.", FatherListsTexts::lawAtFault);
        Checks.of("THE TEXT becomes a LIST, and is empty then: how many NAMES.", FatherListsTexts::becomesList);
        Checks.of("how many NAMES. BAD; -10 less FAULT: nothing changes.", FatherListsTexts::listAtFault);
        Checks.of("Of THE LAW: 0 N, 1 F, 2 W, 3 T, 4 S. BAD.", FatherListsTexts::told);
        Checks.of("A LIST: how many NAMES (k = -1), the NAME at place k. BAD.", FatherListsTexts::name);
        Checks.of("The place of a NAME in a LIST; NONE. BAD.", FatherListsTexts::place);
        Checks.end();
    }

    // ---- names, lists, places

    private static void names() {
        FatherLists x = Checks.lists("az");
        Checks.due("a", x.name(0, 0), 0);
        Checks.due("z", x.name(0, 1), 25);
        Checks.due("0 may be asked for", x.place(0, 0), 0);
        Checks.due("25 may be asked for", x.place(0, 25), 1);
        for (int name : Checks.NO_NAME) {
            Checks.due("place of " + name, x.place(0, name), Checks.BAD);
            Checks.due("held of " + name, x.held(name), Checks.BAD);
            Checks.due("claim " + name, x.house(0, 1, name), Checks.BAD);
            Checks.due("chief " + name, x.say(0, name), Checks.BAD);
            Checks.due("ahead " + name, x.ahead(1, name, 0), Checks.BAD);
            Checks.due("ahead of " + name, x.ahead(1, 0, name), Checks.BAD);
            Checks.due("date of " + name, x.date(name, 1), Checks.BAD);
            Checks.due("worth of " + name, x.worth(0, name), Checks.BAD);
        }
        for (int name : new int[] {0, 25}) {
            Checks.due("held of " + name, x.held(name), 0);
            Checks.due("claim " + name, x.house(0, 1, name), name == 0 ? Checks.NONE : 0);
            Checks.due("chief " + name, x.say(3, name), name == 0 ? 1 : 2);
            Checks.due("ahead " + name, x.ahead(1, name, 25 - name), name == 0 ? 1 : 0);
            Checks.due("date of " + name, x.date(name, 1), Checks.NONE);
            Checks.due("worth of " + name, x.worth(0, name), 2);
        }
    }

    private static void fourLists() {
        FatherLists x = new FatherLists();
        for (int i = 0; i < 4; i++) {
            Checks.due("empty at first", x.name(i, -1), 0);
            Checks.due("has no place 0", x.name(i, 0), Checks.BAD);
        }
        Checks.due("the first", Checks.listOf(x, 0, "ab"), 2);
        Checks.due("the last", Checks.listOf(x, 3, "cde"), 3);
        Checks.dueList("the first", x, 0, "ab");
        Checks.dueList("between", x, 1, "");
        Checks.dueList("the last", x, 3, "cde");
        for (int i : Checks.NO_LIST) {
            Checks.due("list " + i, x.list(i), Checks.BAD);
            Checks.due("name of " + i, x.name(i, -1), Checks.BAD);
            Checks.due("place in " + i, x.place(i, 0), Checks.BAD);
            Checks.due("say " + i, x.say(i, Checks.NONE), Checks.BAD);
            Checks.due("foretold " + i, x.foretold(i, 0, 0, 0), Checks.BAD);
            Checks.due("both, first " + i, x.both(i, 0, 0), Checks.BAD);
            Checks.due("both, second " + i, x.both(0, i, 0), Checks.BAD);
            Checks.due("span " + i, x.span(i, 0, 0), Checks.NO);
            Checks.due("lost " + i, x.lost(i), Checks.BAD);
        }
    }

    private static void noneToTwelve() {
        FatherLists x = new FatherLists();
        Checks.due("twelve", Checks.listOf(x, 0, TWELVE), 12);
        Checks.dueList("twelve", x, 0, TWELVE);
        Checks.due("thirteen", Checks.listOf(x, 0, TWELVE + "m"), -22);
        Checks.due("one twice", Checks.listOf(x, 0, "aa"), -11);
        Checks.dueList("still twelve", x, 0, TWELVE);
        Checks.due("none", Checks.listOf(x, 0, ""), 0);
        Checks.dueList("none", x, 0, "");
        Checks.due("one", Checks.listOf(x, 0, "q"), 1);
        Checks.dueList("one", x, 0, "q");
    }

    private static void places() {
        FatherLists x = Checks.lists("qab", TWELVE);
        Checks.due("the first father", x.name(0, 0), Checks.n('q'));
        Checks.due("the first father's place", x.place(0, Checks.n('q')), 0);
        Checks.due("the last", x.place(0, Checks.n('b')), 2);
        Checks.due("behind the last", x.name(0, 3), Checks.BAD);
        Checks.due("place 11", x.name(1, 11), 11);
        Checks.due("place 12", x.name(1, 12), Checks.BAD);
        Checks.due("span of place 0", x.span(0, 0, 0), Checks.NO);
        x.date(0, 100);
        Checks.due("span of place 2", x.span(0, 2, 0), 120);
        Checks.due("span behind the last", x.span(0, 3, 0), Checks.NO);
        Checks.due("span of place 11", x.span(1, 11, 0), 320);
        Checks.due("span of place 12", x.span(1, 12, 0), Checks.NO);
        Checks.due("span ahead of the first", x.span(0, -1, 0), Checks.NO);
    }

    // ---- the law

    private static void lawOf200Bytes() {
        FatherLists x = new FatherLists();
        String law = "hold 7;" + " ".repeat(187) + "far 2;";
        Checks.typed(x, law);
        Checks.due("200 bytes", x.count(1), 200);
        Checks.due("one more", x.type(' ', 1), Checks.FULL);
        Checks.due("a law of 200 bytes", x.law(), 2);
        Checks.dueLaw("all of it is read", x, 7, 2);
        Checks.typed(x, " ".repeat(194) + "far 3;");
        Checks.due("at the very end", x.law(), 1);
        Checks.dueLaw("at the very end", x, 12, 3);
    }

    private static void blanks() {
        FatherLists x = new FatherLists();
        Checks.due("none between", Checks.lawOf(x, "hold5;far2;"), 2);
        Checks.dueLaw("none between", x, 5, 2);
        Checks.due("one between all", Checks.lawOf(x, "hold 6 ; far 3 ;"), 2);
        Checks.dueLaw("one between all", x, 6, 3);
        Checks.due("several", Checks.lawOf(x, "hold   7   ;   far   4   ;"), 2);
        Checks.dueLaw("several", x, 7, 4);
        Checks.due("ahead and behind", Checks.lawOf(x, "   hold 8;   "), 1);
        Checks.dueLaw("ahead and behind", x, 8, 1);
        Checks.due("a blank parts words", Checks.lawOf(x, "ho ld 8;"), -10);
        Checks.due("a blank parts numbers", Checks.lawOf(x, "take 1 2;"), -17);
        for (int sign : new int[] {0, 9, 10, 11, 12, 13, 28, 31, 33, 133, 160, 255}) {
            Checks.due("no blank is " + sign, Checks.lawOf(x, "hold" + (char) sign + "5;"), -14);
        }
    }

    private static void itemsAtMostOnce() {
        FatherLists x = new FatherLists();
        Checks.due("none", Checks.lawOf(x, ""), 0);
        Checks.due("none but blanks", Checks.lawOf(x, "   "), 0);
        Checks.due("each once", Checks.lawOf(x, ALL_ITEMS), 5);
        Checks.due("each once, in another order", Checks.lawOf(x, "take 5;stand 6;far 2;hold 3;weak 4;"), 5);
        Checks.dueLaw("the order is free", x, 3, 2, 4, 5, 6);
        for (String word : new String[] {"hold", "far", "weak", "take", "stand"}) {
            String item = word + " 5;";
            Checks.due(word + " twice", Checks.lawOf(x, item + item), -10 - item.length());
            Checks.due(word + " twice, others between",
                Checks.lawOf(x, ALL_ITEMS + item), -10 - ALL_ITEMS.length());
        }
    }

    private static void itemsAreEnded() {
        FatherLists x = new FatherLists();
        Checks.due("the last is not", Checks.lawOf(x, "hold 5;far 1"), -22);
        Checks.due("the first is not", Checks.lawOf(x, "hold 5 far 1;"), -17);
        Checks.due("by another sign", Checks.lawOf(x, "hold 5:"), -16);
        Checks.due("by a comma", Checks.lawOf(x, "hold 5,far 1;"), -16);
        Checks.due("twice", Checks.lawOf(x, "hold 5;;"), -17);
        Checks.due("as it may be", Checks.lawOf(x, "hold 5;far 1;"), 2);
    }

    private static void item(String word, int what, int first, int least, int most) {
        FatherLists x = new FatherLists();
        int number = word.length() + 1;
        Checks.due("at first", x.told(what), first);
        Checks.due("the least", Checks.lawOf(x, word + " " + least + ";"), 1);
        Checks.due("the least", x.told(what), least);
        Checks.due("the most", Checks.lawOf(x, word + " " + most + ";"), 1);
        Checks.due("the most", x.told(what), most);
        Checks.due("one above", Checks.lawOf(x, word + " " + (most + 1) + ";"), -10 - number);
        for (int below = 0; below < least; below++) {
            Checks.due("below", Checks.lawOf(x, word + " " + below + ";"), -10 - number);
        }
        Checks.due("below 0", Checks.lawOf(x, word + " -1;"), -10 - number);
        Checks.due("it stays", x.told(what), most);
    }

    private static void notToldIsAsAtFirst() {
        FatherLists x = new FatherLists();
        int[] first = {12, 1, 0, 50, 80};
        String[] words = {"hold", "far", "weak", "take", "stand"};
        for (int item = 0; item < 5; item++) {
            Checks.lawOf(x, ALL_ITEMS);
            Checks.dueLaw("all told", x, 3, 2, 4, 5, 6);
            Checks.due("one told", Checks.lawOf(x, words[item] + " 3;"), 1);
            for (int what = 0; what < 5; what++) {
                Checks.due(words[item] + " told, then " + what, x.told(what), what == item ? 3 : first[what]);
            }
        }
        Checks.lawOf(x, ALL_ITEMS);
        Checks.due("none told", Checks.lawOf(x, ""), 0);
        Checks.dueLaw("none told", x, first);
    }

    private static void tokens() {
        FatherLists x = new FatherLists();
        Checks.due("each ends where the next begins", Checks.lawOf(x, "hold12;far0;weak9;take98;stand0;"), 5);
        Checks.dueLaw("each ends where the next begins", x, 12, 0, 9, 98, 0);
        Checks.due("two words without a blank are one", Checks.lawOf(x, "holdfar 1;"), -10);
        Checks.due("upper letters are none", Checks.lawOf(x, "HOLD 5;"), -10);
        Checks.due("an upper letter ends a word", Checks.lawOf(x, "holD 5;"), -10);
        Checks.due("a sign ahead is no number", Checks.lawOf(x, "hold +5;"), -15);
        Checks.due("a point ends a number", Checks.lawOf(x, "hold 5.0;"), -16);
        Checks.due("a letter ends a number", Checks.lawOf(x, "hold 5e;"), -16);
        Checks.due("a number ends a word", Checks.lawOf(x, "far5a;"), -14);
    }

    // ---- faults of the law

    private static void dueFault(String text, int fault) {
        FatherLists x = new FatherLists();
        Checks.due("law '" + text + "'", Checks.lawOf(x, text), -10 - fault);
    }

    private static void cannotStand() {
        dueFault("5;", 0);
        dueFault(";", 0);
        dueFault("  ;", 2);
        dueFault("hold;", 4);
        dueFault("hold   ;", 7);
        dueFault("hold hold 5;", 5);
        dueFault("hold far 5;", 5);
        dueFault("hold 5 6;", 7);
        dueFault("hold 5 far;", 7);
        dueFault("hold 5hold;", 6);
        dueFault("hold 5;6;", 7);
        dueFault("hold 5; 6;", 8);
        dueFault("hold 5;;", 7);
        dueFault("hold 5;far 1;weak 0;take 0;stand 0;;", 35);
        dueFault("hold 5;far 1;weak 0;take 0;stand 0; 7", 36);
        dueFault("hold ; far ;", 5);
        dueFault("; ?", 0);
        dueFault("hold 5 5 ?", 7);
    }

    private static void toldAlready() {
        dueFault("hold 5;hold 5;", 7);
        dueFault("hold 5;hold", 7);
        dueFault("hold 5;  hold 99;", 9);
        dueFault("hold 5;far 1;hold 5;", 13);
        dueFault("take 1;stand 2;take 1;", 15);
        dueFault("far 0;far 0;", 6);
        dueFault("weak 0;weak 0;", 7);
        dueFault("stand 0;stand 0;", 8);
        dueFault("hold 5;far 1;weak 0;take 0;stand 0;weak 0;", 35);
    }

    private static void beyond() {
        dueFault("hold 0;", 5);
        dueFault("hold 1;", 5);
        dueFault("hold 13;", 5);
        dueFault("hold 99;", 5);
        dueFault("far 7;", 4);
        dueFault("far 10;", 4);
        dueFault("far   7;", 6);
        dueFault("hold 5;far 7;", 11);
        dueFault("hold 13", 5);
        dueFault("hold 13 13", 5);
    }

    private static void beginsNone() {
        int[] signs = {0, 9, 10, 31, 33, '-', '/', ':', '<', 'A', 'Z', '`', '{', 127, 128, 160, 225, 255};
        for (int sign : signs) {
            String s = String.valueOf((char) sign);
            dueFault(s, 0);
            dueFault("  " + s + "hold 5;", 2);
            dueFault("hold " + s + "5;", 5);
            dueFault("hold" + s + "5;", 4);
            dueFault("hold 5" + s + ";", 6);
            dueFault("hold 5;" + s, 7);
            dueFault("hold 5;far 1;weak 0;take 0;stand 0;" + s, 35);
        }
        dueFault("h" + (char) 0 + "old 5;", 0);
    }

    private static void wordOfNone() {
        String[] words = {"h", "hol", "holds", "holdd", "cold", "held", "fa", "fare", "fur", "wea", "weaks", "week",
            "tak", "takes", "tale", "stan", "stands", "stund", "dloh", "z", "abcdefghijklmnopqrstuvwxyz"};
        for (String word : words) {
            dueFault(word + " 5;", 0);
            dueFault("hold 5;  " + word + " 5;", 9);
            dueFault("hold " + word + ";", 5);
            dueFault("hold 5 " + word + ";", 7);
            dueFault(word, 0);
        }
    }

    private static void above99() {
        String[] numbers = {"100", "101", "120", "256", "261", "300", "999", "1000", "65541", "4294967301",
            "18446744073709551621", "99999999999999999999999999999999999999", "5" + "0".repeat(100)};
        for (String number : numbers) {
            dueFault("take " + number + ";", 5);
            dueFault("hold 5;take   " + number + ";", 14);
            dueFault("hold 5 " + number + ";", 7);
            dueFault(number + ";", 0);
        }
        FatherLists x = new FatherLists();
        Checks.due("99 itself", Checks.lawOf(x, "take 99;"), 1);
        Checks.due("99 itself", x.told(3), 99);
    }

    private static void zeroAhead() {
        for (String number : new String[] {"00", "01", "05", "09", "012", "000", "0000000000000000000005"}) {
            dueFault("take " + number + ";", 5);
            dueFault("hold 5;weak  " + number + ";", 13);
        }
        FatherLists x = new FatherLists();
        Checks.due("0 itself", Checks.lawOf(x, "take 0;"), 1);
        Checks.due("0 itself", x.told(3), 0);
        Checks.due("0 behind another", Checks.lawOf(x, "take 10;"), 1);
        Checks.due("0 behind another", x.told(3), 10);
    }

    private static void endsTooEarly() {
        dueFault("hold", 4);
        dueFault("hold ", 5);
        dueFault("hold 5", 6);
        dueFault("hold 5    ", 10);
        dueFault("hold 5;far", 10);
        dueFault("hold 5;far 1", 12);
        dueFault("  stand  ", 9);
        dueFault("hold 5;far 1;weak 0;take 0;stand", 32);
        dueFault("hold 5;far 1;weak 0;take 0;stand 0", 34);
        dueFault("hold" + " ".repeat(196), 200);
        dueFault("hold 5" + " ".repeat(194), 200);
    }

    // ---- lists told by a text

    private static void listText() {
        FatherLists x = new FatherLists();
        Checks.due("all letters, a part", Checks.listOf(x, 0, "zyxwvutsrqpo"), 12);
        Checks.due("another part", Checks.listOf(x, 0, "abcdefghijkl"), 12);
        Checks.due("the rest", Checks.listOf(x, 0, "mn"), 2);
        Checks.due("a blank ahead", Checks.listOf(x, 0, " a"), -10);
        Checks.due("a blank between", Checks.listOf(x, 0, "a b"), -11);
        Checks.due("a blank behind", Checks.listOf(x, 0, "ab "), -12);
        Checks.due("a ; behind", Checks.listOf(x, 0, "ab;"), -12);
        Checks.due("an upper letter", Checks.listOf(x, 0, "aBc"), -11);
        Checks.due("a number", Checks.listOf(x, 0, "ab1"), -12);
        Checks.dueList("it stays", x, 0, "mn");
    }

    private static void listNoLetter() {
        FatherLists x = new FatherLists();
        for (int sign : new int[] {0, 32, '0', ';', 'A', 'Z', '[', '`', '{', 127, 128, 225, 255}) {
            String s = String.valueOf((char) sign);
            Checks.due("first, " + sign, Checks.listOf(x, 0, s + "ab"), -10);
            Checks.due("between, " + sign, Checks.listOf(x, 0, "ab" + s + "c"), -12);
            Checks.due("last, " + sign, Checks.listOf(x, 0, "abcdefghijk" + s), -21);
        }
        Checks.due("the first of two", Checks.listOf(x, 0, "a b "), -11);
        Checks.due("ahead of one that is there already", Checks.listOf(x, 0, "a a"), -11);
    }

    private static void listThereAlready() {
        FatherLists x = new FatherLists();
        Checks.due("next to it", Checks.listOf(x, 0, "aa"), -11);
        Checks.due("further on", Checks.listOf(x, 0, "abca"), -13);
        Checks.due("z", Checks.listOf(x, 0, "zbcdefz"), -16);
        Checks.due("the twelfth", Checks.listOf(x, 0, "abcdefghijka"), -21);
        Checks.due("the first of two", Checks.listOf(x, 0, "abba"), -12);
        Checks.due("ahead of no letter", Checks.listOf(x, 0, "aa "), -11);
        Checks.due("in another list it may be", Checks.listOf(x, 0, "ab") + Checks.listOf(x, 1, "ab"), 4);
    }

    private static void listOneTooMany() {
        FatherLists x = new FatherLists();
        Checks.due("the thirteenth", Checks.listOf(x, 0, TWELVE + "m"), -22);
        Checks.due("the thirteenth of many", Checks.listOf(x, 0, TWELVE + "mnopqrstuvwxyz"), -22);
        Checks.due("the thirteenth, no letter", Checks.listOf(x, 0, TWELVE + ";"), -22);
        Checks.due("the thirteenth, there already", Checks.listOf(x, 0, TWELVE + "a"), -22);
        Checks.due("of 200 bytes", Checks.listOf(x, 0, TWELVE + "m".repeat(188)), -22);
        Checks.due("one of the twelve is there already", Checks.listOf(x, 0, "abcdefghijjkl"), -20);
        Checks.due("the twelfth is not", Checks.listOf(x, 0, TWELVE), 12);
    }

    // ---- calls

    private static void lowestBytes() {
        FatherLists x = new FatherLists();
        Checks.due("one", x.type(0x7A7A7A7A7A7A7A61L, 1), 1);
        Checks.due("eight", x.type(0x6263646566676869L, 8), 9);
        Checks.due("list", x.list(0), 9);
        Checks.dueList("one and eight", x, 0, "abcdefghi");
        Checks.due("three, the rest full of ones", x.type(0xFFFFFFFFFF616263L, 3), 3);
        Checks.due("list", x.list(0), 3);
        Checks.dueList("three", x, 0, "abc");
        Checks.due("five of a long", x.type(0x7A7A7A6162636465L, 5), 5);
        Checks.due("list", x.list(0), 5);
        Checks.dueList("five", x, 0, "abcde");
        for (int n : new int[] {0, -1, 9, 10, 16, 256, 257, Checks.LEAST_INT, Checks.MOST_INT}) {
            Checks.due("n = " + n, x.type('a', n), Checks.BAD);
            Checks.due("nothing came", x.count(1), 0);
        }
        Checks.due("bytes of 0", x.type(0, 8), 8);
        Checks.due("bytes of 255", x.type(-1, 8), 16);
    }

    private static void highestFirst() {
        FatherLists x = new FatherLists();
        x.type(0x6C616B62L, 4);
        x.type(0x63L, 1);
        x.type(0x6A64L, 2);
        Checks.due("list", x.list(0), 7);
        Checks.dueList("in the order of writing", x, 0, "lakbcjd");
        x.type(0x686F6C6420353BL, 7);
        Checks.due("hold 5;", x.law(), 1);
        Checks.due("hold 5;", x.told(0), 5);
    }

    private static void typeFull() {
        for (int n = 1; n <= 8; n++) {
            FatherLists x = new FatherLists();
            Checks.typed(x, "hold 7;" + " ".repeat(193 - n));
            Checks.due("the last " + n, x.type(0x2020202020202020L, n), 200);
            Checks.due("full", x.type('?', 1), Checks.FULL);
            Checks.due("200", x.count(1), 200);
        }
        for (int n = 1; n <= 8; n++) {
            FatherLists x = new FatherLists();
            Checks.typed(x, "hold 7;" + " ".repeat(193 - n + 1));
            Checks.due("one too many of " + n, x.type(0x3F3F3F3F3F3F3F3FL, n), Checks.FULL);
            Checks.due("none of them came", x.count(1), 201 - n);
            Checks.due("none of them came", x.law(), 1);
            Checks.due("then there is room", x.type('a', 1), 1);
        }
    }

    private static void clear() {
        FatherLists x = new FatherLists();
        Checks.due("none", x.clear(), 0);
        Checks.typed(x, "abc");
        Checks.due("three", x.clear(), 3);
        Checks.due("none left", x.count(1), 0);
        Checks.due("again", x.clear(), 0);
        Checks.typed(x, "?".repeat(200));
        Checks.due("full", x.clear(), 200);
        Checks.due("then there is room", x.type(0x6162L, 2), 2);
        Checks.due("nothing of before", x.list(0), 2);
        Checks.dueList("nothing of before", x, 0, "ab");
    }

    private static void becomesLaw() {
        FatherLists x = new FatherLists();
        String[] items = {"hold 3;", "far 2;", "weak 4;", "take 5;", "stand 6;"};
        StringBuilder text = new StringBuilder();
        for (int k = 0; k < 5; k++) {
            text.append(items[k]);
            Checks.due("items", Checks.lawOf(x, text.toString()), k + 1);
            Checks.due("the text is empty", x.count(1), 0);
        }
        Checks.dueLaw("all", x, 3, 2, 4, 5, 6);
        Checks.due("an empty text is a law, too", x.law(), 0);
        Checks.dueLaw("all as at first", x, 12, 1, 0, 50, 80);
    }

    private static void lawAtFault() {
        FatherLists x = Checks.lists("ab");
        Checks.lawOf(x, ALL_ITEMS);
        Checks.due("the least fault", Checks.lawOf(x, "?"), -10);
        Checks.due("all but the end is right",
            Checks.lawOf(x, "hold 9;far 0;weak 9;take 9;stand 9;" + " ".repeat(164) + "?"), -209);
        Checks.dueLaw("the law stays", x, 3, 2, 4, 5, 6);
        Checks.due("the text stays", x.count(1), 200);
        Checks.due("the greatest fault", Checks.lawOf(x, "hold 9" + " ".repeat(194)), -210);
        Checks.due("again the same", x.law(), -210);
        Checks.dueLaw("the law stays", x, 3, 2, 4, 5, 6);
        x.clear();
        Checks.typed(x, "hold 9");
        Checks.due("ends too early", x.law(), -16);
        Checks.due("the bytes stay", x.type(';', 1), 7);
        Checks.due("and can be ended", x.law(), 1);
        Checks.typed(x, "qr");
        Checks.due("no law", x.law(), -10);
        Checks.dueList("lists stay", x, 0, "ab");
        Checks.due("but a list", x.list(1), 2);
        Checks.dueList("but a list", x, 1, "qr");
    }

    private static void becomesList() {
        FatherLists x = Checks.lists("abc", "de");
        Checks.due("other ones", Checks.listOf(x, 0, "xyzw"), 4);
        Checks.due("the text is empty", x.count(1), 0);
        Checks.dueList("other ones", x, 0, "xyzw");
        Checks.dueList("others stay", x, 1, "de");
        Checks.due("an empty text is a list, too", x.list(0), 0);
        Checks.dueList("an empty one", x, 0, "");
        Checks.due("nothing stays of it", x.place(0, Checks.n('x')), Checks.NONE);
    }

    private static void listAtFault() {
        FatherLists x = Checks.lists("abc", "de");
        Checks.due("at the end", Checks.listOf(x, 0, "xyzx"), -13);
        Checks.dueList("it stays", x, 0, "abc");
        Checks.due("the text stays", x.count(1), 4);
        for (int i : Checks.NO_LIST) {
            Checks.due("BAD is ahead of a fault", x.list(i), Checks.BAD);
        }
        Checks.due("the text stays", x.clear(), 4);
        Checks.typed(x, "hold 5");
        Checks.due("no list", x.list(1), -14);
        Checks.dueList("it stays", x, 1, "de");
        Checks.due("the bytes stay", x.type(';', 1), 7);
        Checks.due("but a law", x.law(), 1);
        Checks.due("but a law", x.told(0), 5);
        Checks.typed(x, "pq");
        for (int i : Checks.NO_LIST) {
            Checks.due("no such list", x.list(i), Checks.BAD);
        }
        Checks.due("the text stays", x.list(2), 2);
        Checks.dueList("the text stays", x, 2, "pq");
    }

    private static void told() {
        FatherLists x = new FatherLists();
        Checks.lawOf(x, "hold 11;far 3;weak 21;take 31;stand 41;");
        Checks.dueLaw("in this order", x, 11, 3, 21, 31, 41);
        for (int what : new int[] {-1, 5, 6, Checks.NONE, 32, 256, Checks.LEAST_INT, Checks.MOST_INT}) {
            Checks.due("told " + what, x.told(what), Checks.BAD);
        }
    }

    private static void name() {
        FatherLists x = Checks.lists("", "bza");
        Checks.due("how many of none", x.name(0, -1), 0);
        Checks.due("how many", x.name(1, -1), 3);
        Checks.due("the first", x.name(1, 0), 1);
        Checks.due("the second", x.name(1, 1), 25);
        Checks.due("the last", x.name(1, 2), 0);
        for (int k : new int[] {-2, 3, 4, 12, Checks.NONE, 256, Checks.LEAST_INT, Checks.MOST_INT}) {
            Checks.due("place " + k, x.name(1, k), Checks.BAD);
        }
        Checks.due("place 0 of none", x.name(0, 0), Checks.BAD);
        Checks.listOf(x, 1, "c");
        Checks.due("a place that was", x.name(1, 1), Checks.BAD);
    }

    private static void place() {
        FatherLists x = Checks.lists("bza", TWELVE);
        Checks.due("the first", x.place(0, 1), 0);
        Checks.due("the last", x.place(0, 0), 2);
        Checks.due("the twelfth", x.place(1, 11), 11);
        Checks.due("not there", x.place(0, 2), Checks.NONE);
        Checks.due("in an empty one", x.place(2, 0), Checks.NONE);
        Checks.due("NONE is no name", x.place(0, Checks.NONE), Checks.BAD);
        Checks.listOf(x, 0, "b");
        Checks.due("no more there", x.place(0, 0), Checks.NONE);
    }
}
