import java.io.IOException;
import java.nio.file.Files;
import java.nio.file.Path;

/** What the tests of single sentences share: each sentence of DOC.md is checked by a test of its own. */
final class Checks {
    static final int BAD = -1, STATE = -2, FULL = -3, NONE = -9, NO = -1000000;
    static final int LEAST_INT = Integer.MIN_VALUE, MOST_INT = Integer.MAX_VALUE;

    // Numbers just beyond, far beyond, and such as shifts, bytes or wrap-around would take for good ones.
    static final int[] NO_LIST = {-1, 4, 5, NONE, 32, 256, LEAST_INT, MOST_INT};
    static final int[] NO_NAME = {-1, 26, 27, -8, -10, 32, 'a', 256, LEAST_INT, MOST_INT};
    static final int[] NO_HOUSE = {-1, 6, 7, NONE, 32, 256, LEAST_INT, MOST_INT};
    static final int[] NO_STRENGTH = {-1, 100, 101, NONE, 256, LEAST_INT, MOST_INT};
    static final int[] NO_SET = {0, 16, 17, 31, -1, NONE, 256, LEAST_INT, MOST_INT};

    private static final Path DOC = Path.of("../shared/DOC.md");

    private static String doc = null;
    private static String sentence = "";
    private static int checks = 0;
    private static int sentences = 0;
    private static int wrong = 0;

    private Checks() {
    }

    // ---- sentences

    static void of(String words, Runnable test) {
        sentence = words;
        sentences++;
        if (!isInDocument(words)) {
            fail("is no sentence of the document");
        }
        int before = checks;
        try {
            test.run();
        } catch (RuntimeException e) {
            fail("threw " + e);
        }
        if (checks == before) {
            fail("is not checked at all");
        }
    }

    static void end() {
        System.out.println(wrong == 0 ? sentences + " sentences hold, " + checks + " checks" : wrong + " checks fail");
        if (wrong != 0) {
            System.exit(1);
        }
    }

    private static boolean isInDocument(String words) {
        if (doc == null) {
            doc = readDocument();
        }
        return doc.isEmpty() || doc.contains(words);
    }

    private static String readDocument() {
        try {
            return Files.isReadable(DOC) ? Files.readString(DOC) : "";
        } catch (IOException e) {
            return "";
        }
    }

    private static void fail(String how) {
        wrong++;
        System.out.println("\"" + sentence + "\": " + how);
    }

    // ---- checks

    static void due(String what, long got, long want) {
        checks++;
        if (got != want) {
            fail(what + " answered " + got + ", due is " + want);
        }
    }

    static void dueText(String what, String got, String want) {
        checks++;
        if (!got.equals(want)) {
            fail(what + ": " + got + ", due is " + want);
        }
    }

    static void dueList(String what, FatherLists x, int i, String want) {
        dueText(what, shown(x, i), want);
    }

    static void dueLaw(String what, FatherLists x, int... want) {
        for (int k = 0; k < want.length; k++) {
            due(what + ", told " + k, x.told(k), want[k]);
        }
    }

    static void dueSaid(String what, FatherLists x, String taken, String moved, String dropped) {
        due(what + ", taken", x.said(0), bits(taken));
        due(what + ", moved", x.said(1), bits(moved));
        due(what + ", dropped", x.said(2), bits(dropped));
    }

    // ---- calls

    static void typed(FatherLists x, String text) {
        for (int at = 0; at < text.length(); at += 8) {
            int n = Math.min(8, text.length() - at);
            long v = 0;
            for (int k = 0; k < n; k++) {
                v = v << 8 | text.charAt(at + k);
            }
            x.type(v, n);
        }
    }

    static int lawOf(FatherLists x, String text) {
        x.clear();
        typed(x, text);
        return x.law();
    }

    static int listOf(FatherLists x, int i, String text) {
        x.clear();
        typed(x, text);
        return x.list(i);
    }

    static FatherLists lists(String... texts) {
        FatherLists x = new FatherLists();
        for (int i = 0; i < texts.length; i++) {
            listOf(x, i, texts[i]);
        }
        return x;
    }

    static FatherLists underLaw(String law, String... texts) {
        FatherLists x = lists(texts);
        due("law " + law, lawOf(x, law) >= 0 ? 1 : 0, 1);
        return x;
    }

    static void houseOf(FatherLists x, int h, char claim, int strength) {
        x.house(h, 1, claim - 'a');
        x.house(h, 0, strength);
    }

    static int n(char letter) {
        return letter - 'a';
    }

    static int bits(String names) {
        int bits = 0;
        for (char c : names.toCharArray()) {
            bits |= 1 << n(c);
        }
        return bits;
    }

    static String shown(FatherLists x, int i) {
        StringBuilder b = new StringBuilder();
        for (int k = 0; k < x.name(i, -1); k++) {
            b.append((char) ('a' + x.name(i, k)));
        }
        return b.toString();
    }

    // ---- all that can be seen of an object, but the bytes of THE TEXT

    static String picture(FatherLists x) {
        StringBuilder b = new StringBuilder("lists");
        for (int i = 0; i < 4; i++) {
            b.append(' ').append(shown(x, i)).append('.');
        }
        b.append(" houses");
        for (int h = 0; h < 6; h++) {
            b.append(' ').append(strengthOf(x, h)).append(" by ").append(claimOf(x, h));
        }
        b.append(" dates");
        for (int name = 0; name < 26; name++) {
            b.append(' ').append(dateOf(x, name));
        }
        b.append(" law");
        for (int what = 0; what < 5; what++) {
            b.append(' ').append(x.told(what));
        }
        b.append(" links ").append(lowOf(x)).append(' ').append(highOf(x)).append(" said");
        for (int what = 0; what < 3; what++) {
            b.append(' ').append(x.said(what));
        }
        return b.append(" bytes ").append(x.count(1)).append(" trace ").append(x.trace()).toString();
    }

    static int strengthOf(FatherLists x, int h) {
        int was = x.house(h, 0, 0);
        x.house(h, 0, was);
        return was;
    }

    static int claimOf(FatherLists x, int h) {
        int was = x.house(h, 1, NONE);
        x.house(h, 1, was);
        return was;
    }

    static int dateOf(FatherLists x, int name) {
        int was = x.date(name, NONE);
        x.date(name, was);
        return was;
    }

    static int lowOf(FatherLists x) {
        int was = x.link(0, 1);
        x.link(0, was);
        return was;
    }

    static int highOf(FatherLists x) {
        int was = x.link(1, 60);
        x.link(1, was);
        return was;
    }
}
