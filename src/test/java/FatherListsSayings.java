/** Houses, section 2 of the document and promises 9 to 13, sentence by sentence. */
public final class FatherListsSayings {
    private static final String TWELVE = "abcdefghijkl";

    public static void main(String[] args) {
        Checks.of("HOUSES 0 .. 5 have a STRENGTH 0 .. 99 (0 at first)", FatherListsSayings::strengths);
        Checks.of("go by a CLAIM, a NAME (NONE at first)", FatherListsSayings::claims);
        Checks.of("HELD of a NAME: STRENGTHS of all HOUSES that go by it, added.", FatherListsSayings::held);
        Checks.of("2 SAID: a LIST becomes another one", FatherListsSayings::stepByStep);
        Checks.of("FAR its first F places (never touched)", FatherListsSayings::farIsNeverTouched);
        Checks.of("1 TAKEN: HOUSES in order", FatherListsSayings::takenInOrder);
        Checks.of("if STRENGTH is T at least", FatherListsSayings::takenByStrength);
        Checks.of("its CLAIM is not in the LIST (nor the new chief's NAME)", FatherListsSayings::takenIfNotThere);
        Checks.of("it comes to place F (to the end of a LIST that is shorter), others move on by one",
            FatherListsSayings::takenToPlaceF);
        Checks.of("2 MOVED: HOUSES in order", FatherListsSayings::movedInOrder);
        Checks.of("if STRENGTH is S at least", FatherListsSayings::movedByStrength);
        Checks.of("its CLAIM stands at a place above F, it and the one ahead of it change places",
            FatherListsSayings::movedAboveF);
        Checks.of("3 DROPPED are NAMES behind FAR by which some HOUSE goes", FatherListsSayings::droppedIfClaimed);
        Checks.of("but none of STRENGTH W or more", FatherListsSayings::droppedByWeakness);
        Checks.of("4 The new chief's NAME (if there is one) comes last.", FatherListsSayings::chiefComesLast);
        Checks.of("5 As long as there are more than N", FatherListsSayings::moreThanN);
        Checks.of("of those behind FAR, but the last one (the chief)", FatherListsSayings::butTheLast);
        Checks.of("the one with the least HELD is DROPPED", FatherListsSayings::leastHeld);
        Checks.of("of several the first (if", FatherListsSayings::ofSeveralTheFirst);
        Checks.of("(if there is none such, it stays longer)", FatherListsSayings::staysLonger);
        Checks.of("(A LIST may have up to 12 and 7 ahead of this.)", FatherListsSayings::nineteen);
        Checks.of("FORETOLD: the same without a new chief", FatherListsSayings::foretoldWithoutChief);
        Checks.of("were a HOUSE of another STRENGTH", FatherListsSayings::foretoldStrength);
        Checks.of("what would be TAKEN, MOVED, DROPPED", FatherListsSayings::foretoldChangesNothing);
        Checks.of("STRENGTH (what = 0), CLAIM (1; NONE too) of a HOUSE becomes v: what it was. BAD.",
            FatherListsSayings::house);
        Checks.of("`int held(int name)`: HELD of a NAME. BAD.", FatherListsSayings::heldRefuses);
        Checks.of("A LIST is SAID with a new chief's NAME (NONE: without): how many NAMES.", FatherListsSayings::say);
        Checks.of("how many NAMES. BAD; STATE: the NAME is in it.", FatherListsSayings::sayRefuses);
        Checks.of("STATE: the NAME is in it.", FatherListsSayings::nameIsInIt);
        Checks.of("Of the latest saying NAMES that were TAKEN (what = 0), MOVED (1), DROPPED (2), as bits. BAD.",
            FatherListsSayings::said);
        Checks.of("TAKEN (what = 0), MOVED (1), DROPPED (2), as bits. BAD.", FatherListsSayings::foretoldRefuses);
        Checks.end();
    }

    // ---- houses

    private static void strengths() {
        FatherLists x = new FatherLists();
        for (int h = 0; h < 6; h++) {
            Checks.due("0 at first", x.house(h, 0, 99), 0);
            Checks.due("99 was it", x.house(h, 0, 0), 99);
            Checks.due("0 was it", x.house(h, 0, 7), 0);
        }
        for (int v : Checks.NO_STRENGTH) {
            Checks.due("strength " + v, x.house(0, 0, v), Checks.BAD);
            Checks.due("foretold strength " + v, x.foretold(0, 0, v, 0), Checks.BAD);
        }
        Checks.due("it stays", x.house(0, 0, 0), 7);
        for (int h : Checks.NO_HOUSE) {
            Checks.due("strength of house " + h, x.house(h, 0, 1), Checks.BAD);
            Checks.due("claim of house " + h, x.house(h, 1, 1), Checks.BAD);
            Checks.due("foretold of house " + h, x.foretold(0, h, 1, 0), Checks.BAD);
            Checks.due("court of house " + h, x.court(1, h, 0), Checks.NO);
            Checks.due("court against house " + h, x.court(1, 0, h), Checks.NO);
        }
    }

    private static void claims() {
        FatherLists x = new FatherLists();
        Checks.due("none goes by a name", x.count(2), 0);
        for (int h = 0; h < 6; h++) {
            Checks.due("NONE at first", x.house(h, 1, 25), Checks.NONE);
            Checks.due("z was it", x.house(h, 1, 0), 25);
            Checks.due("a was it", x.house(h, 1, Checks.NONE), 0);
            Checks.due("none was it", x.house(h, 1, 4), Checks.NONE);
        }
        Checks.due("all may go by one name", x.count(2), 6);
    }

    private static void held() {
        FatherLists x = new FatherLists();
        Checks.due("nobody goes by it", x.held(25), 0);
        int sum = 0;
        for (int h = 0; h < 6; h++) {
            Checks.houseOf(x, h, 'z', 99);
            sum += 99;
            Checks.due("so far", x.held(25), sum);
        }
        x.house(0, 0, 0);
        Checks.due("one of strength 0", x.held(25), 495);
        x.house(5, 1, 0);
        Checks.due("one goes by another", x.held(25), 396);
        Checks.due("that other", x.held(0), 99);
        x.house(5, 1, Checks.NONE);
        Checks.due("then by none", x.held(0), 0);
        Checks.due("NONE is no name", x.held(Checks.NONE), Checks.BAD);
    }

    // ---- a saying

    private static void stepByStep() {
        FatherLists x = Checks.underLaw("hold 5;far 1;weak 20;take 50;stand 80;", "abcdef");
        Checks.houseOf(x, 0, 'p', 60);
        Checks.houseOf(x, 1, 'e', 90);
        Checks.houseOf(x, 2, 'c', 10);
        Checks.houseOf(x, 3, 'q', 85);
        Checks.houseOf(x, 4, 'p', 80);
        Checks.houseOf(x, 5, 'z', 1);
        // Taken: aqpbcdef; moved: apqbcedf; c is weak; z comes; b, d, f are held by nobody.
        Checks.due("as many as can be held", x.say(0, 25), 5);
        Checks.dueList("one step behind the other", x, 0, "apqez");
        Checks.dueSaid("one step behind the other", x, "pq", "ep", "bcdf");
        FatherLists y = Checks.underLaw("hold 3;far 0;weak 60;take 50;", "abc");
        Checks.houseOf(y, 0, 'p', 55);
        y.say(0, Checks.NONE);
        Checks.dueList("taken and dropped as weak, ahead of what is too much", y, 0, "abc");
        Checks.dueSaid("taken and dropped as weak, ahead of what is too much", y, "p", "", "p");
    }

    private static void farIsNeverTouched() {
        FatherLists x = Checks.underLaw("far 3;hold 2;weak 99;stand 0;take 0;", "abcdefg");
        for (int h = 0; h < 6; h++) {
            Checks.houseOf(x, h, (char) ('a' + h), 50);
        }
        x.say(0, Checks.n('z'));
        Checks.dueList("not moved, not dropped, as weak or as too many", x, 0, "abcz");
        // d changes places with none at F; e and f move ahead by one.
        Checks.dueSaid("behind it all that goes", x, "", "ef", "defg");
        FatherLists y = Checks.underLaw("far 6;hold 2;", "abcdefgh");
        Checks.houseOf(y, 0, 'p', 99);
        Checks.houseOf(y, 1, 'g', 99);
        y.say(0, Checks.NONE);
        Checks.dueList("six", y, 0, "abcdefh");
        FatherLists z = Checks.underLaw("far 0;hold 2;take 99;", "abcd");
        Checks.houseOf(z, 0, 'd', 98);
        Checks.houseOf(z, 1, 'p', 99);
        z.say(0, Checks.n('q'));
        Checks.dueList("none is far", z, 0, "pq");
    }

    private static void takenInOrder() {
        FatherLists x = Checks.lists("ab");
        for (int h = 0; h < 6; h++) {
            Checks.houseOf(x, h, (char) ('p' + h), 50);
        }
        x.say(0, Checks.NONE);
        Checks.dueList("the later is ahead", x, 0, "autsrqpb");
        Checks.dueSaid("all", x, "pqrstu", "", "");
        FatherLists y = Checks.underLaw("far 6;", "a");
        Checks.houseOf(y, 0, 'q', 50);
        Checks.houseOf(y, 5, 'p', 50);
        y.say(0, Checks.NONE);
        Checks.dueList("at the end of a short one the later is behind", y, 0, "aqp");
    }

    private static void takenByStrength() {
        int[] laws = {0, 1, 50, 99};
        for (int least : laws) {
            FatherLists x = Checks.underLaw("take " + least + ";", "ab");
            x.house(3, 1, Checks.n('p'));
            if (least > 0) {
                x.house(3, 0, least - 1);
                Checks.due("one less", x.say(0, Checks.NONE), 2);
                Checks.dueSaid("one less", x, "", "", "");
            }
            x.house(3, 0, least);
            Checks.due("at least", x.say(0, Checks.NONE), 3);
            Checks.dueSaid("at least", x, "p", "", "");
            Checks.dueList("at least", x, 0, "apb");
        }
        FatherLists y = Checks.lists("ab");
        Checks.houseOf(y, 0, 'p', 30);
        Checks.houseOf(y, 1, 'p', 30);
        Checks.due("strengths are not added", y.say(0, Checks.NONE), 2);
        y.house(1, 0, 99);
        Checks.due("far more", y.say(0, Checks.NONE), 3);
    }

    private static void takenIfNotThere() {
        FatherLists x = Checks.lists("abc");
        Checks.houseOf(x, 0, 'c', 60);
        Checks.houseOf(x, 1, 'a', 60);
        Checks.houseOf(x, 2, 'z', 60);
        Checks.houseOf(x, 3, 'z', 60);
        x.house(4, 0, 60);
        Checks.houseOf(x, 5, 'q', 60);
        Checks.due("z once, q as the chief", x.say(0, Checks.n('q')), 5);
        Checks.dueList("z once, q as the chief", x, 0, "azbcq");
        Checks.dueSaid("z alone", x, "z", "", "");
        FatherLists y = Checks.lists("abc", "q");
        Checks.houseOf(y, 5, 'q', 60);
        Checks.due("with another chief it is taken", y.say(0, Checks.n('r')), 5);
        Checks.dueList("with another chief it is taken, though another list has it", y, 0, "aqbcr");
    }

    private static void takenToPlaceF() {
        String[] before = {"", "a", "ab", "abc", "abcd", "abcde"};
        String[] after = {"p", "ap", "abp", "abcp", "abcpd", "abcpde"};
        for (int k = 0; k < before.length; k++) {
            FatherLists x = Checks.underLaw("far 3;", before[k]);
            Checks.houseOf(x, 0, 'p', 50);
            Checks.due("one more", x.say(0, Checks.NONE), k + 1);
            Checks.dueList("of " + before[k], x, 0, after[k]);
        }
        FatherLists y = Checks.underLaw("far 0;", "ab");
        Checks.houseOf(y, 0, 'p', 50);
        y.say(0, Checks.NONE);
        Checks.dueList("to place 0", y, 0, "pab");
        FatherLists z = Checks.underLaw("far 2;", "");
        for (int h = 0; h < 4; h++) {
            Checks.houseOf(z, h, (char) ('p' + h), 50);
        }
        z.say(0, Checks.NONE);
        Checks.dueList("to the end, till F is full", z, 0, "pqsr");
    }

    private static void movedInOrder() {
        FatherLists x = Checks.lists("abcde");
        Checks.houseOf(x, 0, 'e', 80);
        Checks.houseOf(x, 1, 'd', 80);
        x.say(0, Checks.NONE);
        Checks.dueList("e passes d, then d passes e", x, 0, "abcde");
        Checks.dueSaid("both", x, "", "de", "");
        FatherLists y = Checks.lists("abcde");
        Checks.houseOf(y, 0, 'd', 80);
        Checks.houseOf(y, 1, 'e', 80);
        y.say(0, Checks.NONE);
        Checks.dueList("d passes c, then e passes c", y, 0, "abdec");
        FatherLists z = Checks.lists("abcde");
        Checks.houseOf(z, 1, 'e', 80);
        Checks.houseOf(z, 3, 'e', 80);
        Checks.houseOf(z, 5, 'e', 80);
        z.say(0, Checks.NONE);
        Checks.dueList("a place by each house", z, 0, "aebcd");
        Checks.dueSaid("one", z, "", "e", "");
    }

    private static void movedByStrength() {
        int[] laws = {0, 1, 80, 99};
        for (int least : laws) {
            FatherLists x = Checks.underLaw("take 99;stand " + least + ";", "abcd");
            x.house(4, 1, Checks.n('d'));
            if (least > 0) {
                x.house(4, 0, least - 1);
                x.say(0, Checks.NONE);
                Checks.dueList("one less", x, 0, "abcd");
                Checks.dueSaid("one less", x, "", "", "");
            }
            x.house(4, 0, least);
            x.say(0, Checks.NONE);
            Checks.dueList("at least", x, 0, "abdc");
            Checks.dueSaid("at least", x, "", "d", "");
        }
        FatherLists y = Checks.lists("abcd");
        Checks.houseOf(y, 0, 'd', 79);
        Checks.houseOf(y, 1, 'd', 79);
        y.say(0, Checks.NONE);
        Checks.dueList("strengths are not added", y, 0, "abcd");
    }

    private static void movedAboveF() {
        String[] after = {"abcdef", "abcdef", "abcdef", "abdcef", "abcedf", "abcdfe"};
        for (int k = 0; k < after.length; k++) {
            FatherLists x = Checks.underLaw("far 2;", "abcdef");
            Checks.houseOf(x, 0, (char) ('a' + k), 99);
            Checks.due("as many", x.say(0, Checks.NONE), 6);
            Checks.dueList("from place " + k, x, 0, after[k]);
            Checks.dueSaid("from place " + k, x, "", k > 2 ? String.valueOf((char) ('a' + k)) : "", "");
        }
        FatherLists y = Checks.underLaw("far 0;", "ab");
        Checks.houseOf(y, 0, 'a', 99);
        y.say(0, Checks.NONE);
        Checks.dueList("at place 0 it stays", y, 0, "ab");
        Checks.houseOf(y, 0, 'b', 99);
        y.say(0, Checks.NONE);
        Checks.dueList("to place 0", y, 0, "ba");
        FatherLists z = Checks.underLaw("take 99;", "abc");
        Checks.houseOf(z, 0, 'x', 98);
        z.house(1, 0, 99);
        z.say(0, Checks.NONE);
        Checks.dueList("not there, and no claim", z, 0, "abc");
        Checks.dueSaid("not there, and no claim", z, "", "", "");
        FatherLists w = Checks.lists("ab");
        Checks.houseOf(w, 0, 'q', 99);
        w.say(0, Checks.n('q'));
        Checks.dueList("the new chief is not there yet", w, 0, "abq");
        Checks.dueSaid("the new chief is not there yet", w, "", "", "");
    }

    private static void droppedIfClaimed() {
        FatherLists x = Checks.underLaw("far 2;weak 99;", "abcde");
        Checks.houseOf(x, 0, 'a', 0);
        Checks.houseOf(x, 1, 'b', 0);
        Checks.houseOf(x, 2, 'c', 0);
        Checks.houseOf(x, 3, 'e', 0);
        Checks.due("c at place F, and e", x.say(0, Checks.NONE), 3);
        Checks.dueList("b ahead of F stays, d by which no house goes", x, 0, "abd");
        Checks.dueSaid("c and e", x, "", "", "ce");
        FatherLists y = Checks.underLaw("far 0;weak 99;", "abc");
        Checks.houseOf(y, 0, 'a', 0);
        Checks.houseOf(y, 1, 'b', 1);
        Checks.houseOf(y, 2, 'c', 2);
        Checks.due("all", y.say(0, Checks.NONE), 0);
        Checks.dueSaid("all", y, "", "", "abc");
        FatherLists z = Checks.underLaw("far 1;weak 99;take 60;", "ab");
        Checks.houseOf(z, 0, 'p', 60);
        z.say(0, Checks.NONE);
        Checks.dueList("one just taken, too", z, 0, "ab");
        Checks.dueSaid("one just taken, too", z, "p", "", "p");
    }

    private static void droppedByWeakness() {
        int[] laws = {1, 50, 99};
        for (int weak : laws) {
            FatherLists x = Checks.underLaw("weak " + weak + ";take 99;stand 99;", "acb");
            Checks.houseOf(x, 5, 'c', weak);
            x.say(0, Checks.NONE);
            Checks.dueList("of that strength", x, 0, "acb");
            x.house(5, 0, weak - 1);
            x.say(0, Checks.NONE);
            Checks.dueList("one less", x, 0, "ab");
            Checks.dueSaid("one less", x, "", "", "c");
        }
        FatherLists y = Checks.lists("abc");
        Checks.houseOf(y, 0, 'c', 0);
        y.say(0, Checks.NONE);
        Checks.dueList("weak 0 drops none", y, 0, "abc");
        FatherLists z = Checks.underLaw("weak 10;", "abcd");
        Checks.houseOf(z, 0, 'b', 9);
        Checks.houseOf(z, 1, 'b', 9);
        Checks.houseOf(z, 2, 'c', 0);
        Checks.houseOf(z, 3, 'c', 10);
        Checks.houseOf(z, 4, 'd', 11);
        Checks.houseOf(z, 5, 'd', 1);
        z.say(0, Checks.NONE);
        Checks.dueList("strengths are not added; one house is enough", z, 0, "acd");
    }

    private static void chiefComesLast() {
        FatherLists x = Checks.lists("abc");
        Checks.due("last", x.say(0, Checks.n('q')), 4);
        Checks.dueList("last", x, 0, "abcq");
        Checks.due("without", x.say(0, Checks.NONE), 4);
        Checks.dueList("without", x, 0, "abcq");
        Checks.due("into an empty one", x.say(1, 25), 1);
        Checks.dueList("into an empty one", x, 1, "z");
        Checks.due("an empty one without", x.say(2, Checks.NONE), 0);
        FatherLists y = Checks.underLaw("far 6;", "abc");
        Checks.houseOf(y, 0, 'p', 50);
        y.say(0, Checks.n('q'));
        Checks.dueList("behind those that were taken, in a short one, too", y, 0, "abcpq");
        FatherLists z = Checks.underLaw("far 0;weak 99;", "abc");
        Checks.houseOf(z, 0, 'q', 0);
        z.say(0, Checks.n('q'));
        Checks.dueList("he comes behind the dropping of the weak", z, 0, "abcq");
        Checks.dueSaid("neither taken nor dropped", z, "", "", "");
        z.say(0, Checks.n('r'));
        Checks.dueList("at the next saying he is dropped", z, 0, "abcr");
    }

    private static void moreThanN() {
        for (int n = 2; n <= 12; n++) {
            FatherLists x = Checks.underLaw("hold " + n + ";far 0;", TWELVE.substring(0, n));
            Checks.due("just N", x.say(0, Checks.NONE), n);
            Checks.dueSaid("just N", x, "", "", "");
            Checks.due("one more than N", x.say(0, 25), n);
            Checks.dueSaid("one more than N", x, "", "", "a");
            Checks.dueList("one more than N", x, 0, TWELVE.substring(1, n) + "z");
        }
        FatherLists y = Checks.underLaw("hold 2;far 1;", TWELVE);
        Checks.due("many more", y.say(0, 25), 2);
        Checks.dueList("many more", y, 0, "az");
        Checks.dueSaid("many more", y, "", "", "bcdefghijkl");
        FatherLists z = Checks.underLaw("hold 4;far 1;weak 9;", "abcd");
        Checks.houseOf(z, 0, 'd', 1);
        Checks.due("one is dropped as weak: there are just N", z.say(0, 25), 4);
        Checks.dueSaid("one is dropped as weak: there are just N", z, "", "", "d");
    }

    private static void butTheLast() {
        FatherLists x = Checks.underLaw("hold 3;far 2;", "abc");
        for (int h = 0; h < 6; h++) {
            Checks.houseOf(x, h, 'c', 10);
        }
        x.say(0, Checks.n('q'));
        Checks.dueList("the chief is least held, c goes", x, 0, "abq");
        FatherLists y = Checks.underLaw("hold 2;far 0;", "abc");
        Checks.houseOf(y, 0, 'a', 1);
        Checks.houseOf(y, 1, 'b', 2);
        y.say(0, Checks.NONE);
        Checks.dueList("without a chief the last stays, too", y, 0, "bc");
        FatherLists z = Checks.underLaw("hold 2;far 1;", "abc");
        Checks.houseOf(z, 0, 'b', 40);
        z.say(0, Checks.NONE);
        Checks.dueList("a is far, c is last", z, 0, "ac");
    }

    private static void leastHeld() {
        FatherLists x = Checks.underLaw("hold 4;far 1;", "abcde");
        Checks.houseOf(x, 0, 'b', 30);
        Checks.houseOf(x, 1, 'b', 30);
        Checks.houseOf(x, 2, 'c', 45);
        Checks.houseOf(x, 3, 'd', 20);
        Checks.houseOf(x, 4, 'd', 24);
        x.say(0, Checks.NONE);
        Checks.dueList("added they are 60, 45, 44", x, 0, "abce");
        x.say(0, Checks.n('q'));
        Checks.dueList("e is held by nobody", x, 0, "abcq");
        x.say(0, Checks.n('r'));
        Checks.dueList("q is, too", x, 0, "abcr");
        Checks.houseOf(x, 5, 'r', 46);
        x.say(0, Checks.n('s'));
        Checks.dueList("45 is the least", x, 0, "abrs");
        FatherLists y = Checks.underLaw("hold 3;far 0;", "abcdef");
        Checks.houseOf(y, 0, 'a', 3);
        Checks.houseOf(y, 1, 'b', 1);
        Checks.houseOf(y, 2, 'c', 4);
        Checks.houseOf(y, 3, 'd', 2);
        Checks.houseOf(y, 4, 'e', 5);
        y.say(0, Checks.NONE);
        Checks.dueList("1, 2, then 3", y, 0, "cef");
        Checks.dueSaid("1, 2, then 3", y, "", "", "abd");
    }

    private static void ofSeveralTheFirst() {
        FatherLists x = Checks.underLaw("hold 4;far 1;", "abcde");
        x.say(0, Checks.NONE);
        Checks.dueList("of all, b", x, 0, "acde");
        x.say(0, Checks.n('q'));
        Checks.dueList("then c", x, 0, "adeq");
        FatherLists y = Checks.underLaw("hold 5;far 1;", "abcdef");
        Checks.houseOf(y, 0, 'b', 30);
        Checks.houseOf(y, 1, 'e', 20);
        Checks.houseOf(y, 2, 'c', 20);
        Checks.houseOf(y, 3, 'd', 21);
        y.say(0, Checks.NONE);
        Checks.dueList("by place, not by house", y, 0, "abdef");
    }

    private static void staysLonger() {
        FatherLists x = Checks.underLaw("hold 2;far 6;", "abcdef");
        Checks.due("six that are far, and the chief", x.say(0, 25), 7);
        Checks.dueList("six that are far, and the chief", x, 0, "abcdefz");
        Checks.due("without a chief", x.say(0, Checks.NONE), 7);
        Checks.dueSaid("none", x, "", "", "");
        Checks.due("one is behind them", x.say(0, 24), 7);
        Checks.dueList("one is behind them", x, 0, "abcdefy");
        FatherLists y = Checks.underLaw("hold 2;far 6;", "abcd");
        Checks.due("all are far", y.say(0, Checks.NONE), 4);
        Checks.due("the chief is, too", y.say(0, 25), 5);
        Checks.due("the chief is, too", y.say(0, 24), 6);
        Checks.dueList("all are far", y, 0, "abcdzy");
        FatherLists z = Checks.underLaw("hold 2;far 2;", "abc");
        Checks.due("c is last", z.say(0, Checks.NONE), 3);
        Checks.due("c is last no more", z.say(0, 25), 3);
        Checks.dueList("c is last no more", z, 0, "abz");
    }

    private static void nineteen() {
        FatherLists x = Checks.lists(TWELVE);
        for (int h = 0; h < 6; h++) {
            Checks.houseOf(x, h, (char) ('p' + h), 60 + h);
        }
        Checks.due("six are taken, and a chief", x.say(0, 25), 12);
        Checks.dueList("six are taken, and a chief", x, 0, "autsrqpijklz");
        Checks.dueSaid("seven go", x, "pqrstu", "", "bcdefgh");
        FatherLists y = Checks.underLaw("far 6;hold 2;", TWELVE);
        for (int h = 0; h < 6; h++) {
            Checks.houseOf(y, h, (char) ('p' + h), 60);
        }
        Checks.due("twelve go", y.say(0, 25), 7);
        Checks.dueList("twelve go", y, 0, "abcdefz");
        Checks.dueSaid("twelve go", y, "pqrstu", "", "pqrstughijkl");
        FatherLists z = Checks.underLaw("far 0;", TWELVE);
        for (int h = 0; h < 6; h++) {
            Checks.houseOf(z, h, (char) ('p' + h), 99);
        }
        Checks.due("eighteen without a chief", z.say(0, Checks.NONE), 12);
        // p passes q, q passes p, and so on: each moves, and all stand as they were taken.
        Checks.dueList("eighteen without a chief", z, 0, "utsrqpghijkl");
        Checks.dueSaid("eighteen without a chief", z, "pqrstu", "pqrstu", "abcdef");
    }

    // ---- foretold

    private static void foretoldWithoutChief() {
        FatherLists x = Checks.underLaw("hold 3;far 1;", "abcd");
        Checks.due("as without a chief", x.foretold(0, 0, 0, 2), Checks.bits("b"));
        Checks.due("the last stays", x.foretold(0, 0, 99, 2), Checks.bits("b"));
        Checks.houseOf(x, 0, 'q', 60);
        Checks.due("taken, as it is no chief's", x.foretold(0, 0, 60, 0), Checks.bits("q"));
        Checks.due("of an empty one", x.foretold(1, 0, 60, 0), Checks.bits("q"));
        Checks.due("of an empty one", x.foretold(1, 0, 60, 2), 0);
        FatherLists y = Checks.underLaw("hold 2;far 0;", "ab");
        Checks.due("just N", y.foretold(0, 0, 0, 2), 0);
    }

    private static void foretoldStrength() {
        FatherLists x = Checks.underLaw("far 1;weak 10;hold 5;", "abcd");
        Checks.houseOf(x, 0, 'q', 0);
        Checks.houseOf(x, 1, 'd', 30);
        Checks.due("as strong as it takes", x.foretold(0, 0, 50, 0), Checks.bits("q"));
        Checks.due("one less", x.foretold(0, 0, 49, 0), 0);
        Checks.due("as strong as it takes to move", x.foretold(0, 1, 80, 1), Checks.bits("d"));
        Checks.due("one less", x.foretold(0, 1, 79, 1), 0);
        Checks.due("just not weak", x.foretold(0, 1, 10, 2), 0);
        Checks.due("weak", x.foretold(0, 1, 9, 2), Checks.bits("d"));
        Checks.due("fallen", x.foretold(0, 1, 0, 2), Checks.bits("d"));
        Checks.due("the strength that it has", x.foretold(0, 1, 30, 2), 0);
        Checks.due("a house without a claim", x.foretold(0, 5, 99, 0), 0);
        Checks.lawOf(x, "hold 3;far 1;");
        Checks.houseOf(x, 2, 'b', 20);
        Checks.houseOf(x, 3, 'c', 10);
        Checks.due("least held", x.foretold(0, 5, 0, 2), Checks.bits("c"));
        Checks.due("HELD is as it would be", x.foretold(0, 3, 21, 2), Checks.bits("b"));
        Checks.due("HELD is as it would be", x.foretold(0, 2, 10, 2), Checks.bits("b"));
    }

    private static void foretoldChangesNothing() {
        FatherLists x = Checks.underLaw("far 1;weak 10;hold 4;", "abcde", "uvw");
        Checks.houseOf(x, 0, 'q', 60);
        Checks.houseOf(x, 1, 'c', 90);
        Checks.houseOf(x, 2, 'd', 5);
        x.say(1, Checks.NONE);
        String before = Checks.picture(x);
        Checks.due("taken", x.foretold(0, 1, 80, 0), Checks.bits("q"));
        Checks.due("moved", x.foretold(0, 1, 80, 1), Checks.bits("c"));
        Checks.due("dropped: d as weak, then b as least held", x.foretold(0, 1, 80, 2), Checks.bits("bd"));
        Checks.dueText("nothing changes", Checks.picture(x), before);
        Checks.due("then it is said so", x.say(0, Checks.NONE), 4);
        Checks.dueList("then it is said so", x, 0, "aqce");
        Checks.dueSaid("then it is said so", x, "q", "c", "bd");
    }

    private static void foretoldRefuses() {
        FatherLists x = Checks.lists("abc");
        Checks.houseOf(x, 0, 'z', 60);
        Checks.due("the highest bit", x.foretold(0, 0, 60, 0), 1 << 25);
        Checks.due("0 may be", x.foretold(0, 0, 0, 0), 0);
        Checks.due("99 may be", x.foretold(0, 5, 99, 0), 1 << 25);
        for (int what : new int[] {-1, 3, 4, Checks.NONE, 32, Checks.LEAST_INT, Checks.MOST_INT}) {
            Checks.due("what = " + what, x.foretold(0, 0, 60, what), Checks.BAD);
        }
        for (int i : Checks.NO_LIST) {
            Checks.due("list " + i, x.foretold(i, 0, 60, 0), Checks.BAD);
        }
        for (int h : Checks.NO_HOUSE) {
            Checks.due("house " + h, x.foretold(0, h, 60, 0), Checks.BAD);
        }
        for (int v : Checks.NO_STRENGTH) {
            Checks.due("strength " + v, x.foretold(0, 0, v, 0), Checks.BAD);
        }
    }

    // ---- calls

    private static void house() {
        FatherLists x = new FatherLists();
        Checks.due("strength", x.house(2, 0, 99), 0);
        Checks.due("claim", x.house(2, 1, 25), Checks.NONE);
        Checks.due("strength stays", x.house(2, 0, 5), 99);
        Checks.due("claim stays", x.house(2, 1, 5), 25);
        Checks.due("a claim may go", x.house(2, 1, Checks.NONE), 5);
        Checks.due("it went", x.house(2, 1, Checks.NONE), Checks.NONE);
        Checks.due("strength NONE", x.house(2, 0, Checks.NONE), Checks.BAD);
        for (int what : new int[] {-1, 2, 3, Checks.NONE, 32, 256, Checks.LEAST_INT, Checks.MOST_INT}) {
            Checks.due("what = " + what, x.house(2, what, 3), Checks.BAD);
        }
        for (int v : Checks.NO_NAME) {
            Checks.due("claim " + v, x.house(2, 1, v), Checks.BAD);
        }
        Checks.due("a claim may not be a strength", x.house(2, 1, 99), Checks.BAD);
        Checks.due("strength stays", x.house(2, 0, 5), 5);
        Checks.due("claim stays", x.house(2, 1, 5), Checks.NONE);
        Checks.due("others stay", x.house(1, 1, 5), Checks.NONE);
        Checks.due("others stay", x.house(3, 0, 5), 0);
    }

    private static void say() {
        FatherLists x = Checks.lists("ab", "cd", "ef", "gh");
        Checks.due("with", x.say(0, 25), 3);
        Checks.due("without", x.say(3, Checks.NONE), 2);
        Checks.dueList("said", x, 0, "abz");
        Checks.dueList("others stay", x, 1, "cd");
        Checks.dueList("others stay", x, 2, "ef");
        Checks.dueList("said without", x, 3, "gh");
        Checks.due("a may be", x.say(1, 0), 3);
        Checks.due("as many as can be held", Checks.listOf(x, 2, TWELVE) + x.say(2, 25), 24);
    }

    private static void heldRefuses() {
        FatherLists x = new FatherLists();
        Checks.houseOf(x, 5, 'a', 7);
        Checks.due("the first", x.held(0), 7);
        Checks.due("the last", x.held(25), 0);
        Checks.due("NONE", x.held(Checks.NONE), Checks.BAD);
        for (int name : Checks.NO_NAME) {
            Checks.due("held of " + name, x.held(name), Checks.BAD);
        }
    }

    private static void sayRefuses() {
        FatherLists x = Checks.lists("abc");
        Checks.houseOf(x, 0, 'p', 60);
        for (int i : Checks.NO_LIST) {
            Checks.due("list " + i, x.say(i, 25), Checks.BAD);
            Checks.due("list " + i + " without a chief", x.say(i, Checks.NONE), Checks.BAD);
        }
        for (int name : Checks.NO_NAME) {
            Checks.due("chief " + name, x.say(0, name), Checks.BAD);
        }
        Checks.dueList("nothing changes", x, 0, "abc");
        Checks.dueSaid("nothing changes", x, "", "", "");
    }

    private static void nameIsInIt() {
        FatherLists x = Checks.lists("abc");
        Checks.houseOf(x, 0, 'z', 99);
        for (char c : "abc".toCharArray()) {
            Checks.due("in it: " + c, x.say(0, Checks.n(c)), Checks.STATE);
        }
        Checks.dueList("nothing changes", x, 0, "abc");
        Checks.dueSaid("nothing changes", x, "", "", "");
        Checks.due("in another it is not", x.say(1, 0), 2);
        Checks.due("now it is", x.say(1, 0), Checks.STATE);
        Checks.due("z was taken there", x.say(1, 25), Checks.STATE);
        Checks.due("z is not here yet", x.say(0, 25), 4);
        Checks.dueList("z is not here yet", x, 0, "abcz");
    }

    private static void said() {
        FatherLists x = Checks.underLaw("far 0;", "abcz", "d");
        Checks.dueSaid("ahead of any saying", x, "", "", "");
        Checks.houseOf(x, 0, 'z', 99);
        Checks.houseOf(x, 1, 'p', 50);
        x.say(0, Checks.NONE);
        Checks.dueSaid("the highest bit", x, "p", "z", "");
        Checks.dueList("the highest bit", x, 0, "pabzc");
        x.say(0, 0);
        x.say(0, 26);
        x.say(4, Checks.NONE);
        x.foretold(1, 0, 99, 0);
        Checks.dueSaid("a refused one is none", x, "p", "z", "");
        x.house(0, 0, 0);
        Checks.lawOf(x, "far 0;weak 1;hold 4;");
        x.say(0, Checks.NONE);
        Checks.dueSaid("of the latest alone", x, "", "", "z");
        x.say(2, 7);
        Checks.dueSaid("of another list", x, "p", "", "");
        x.say(3, Checks.NONE);
        x.say(3, Checks.NONE);
        Checks.dueSaid("that changed nothing", x, "", "", "");
        for (int what : new int[] {-1, 3, 4, Checks.NONE, 32, 256, Checks.LEAST_INT, Checks.MOST_INT}) {
            Checks.due("said " + what, x.said(what), Checks.BAD);
        }
    }
}
