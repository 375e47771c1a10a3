import java.util.Arrays;

/** Lists of who begot whom, said anew at each new chief. README.md says how it is used. */
public final class FatherLists {
    public static final int BAD = -1, STATE = -2, FULL = -3, NONE = -9;
    public static final int NO = -1000000;

    private static final int LISTS = 4;
    private static final int PLACES = 12;
    private static final int NAMES = 26;
    private static final int HOUSES = 6;
    private static final int MOST_STRENGTH = 99;
    private static final int LAST_YEAR = 2000;
    private static final int LONGEST_LINK = 60;
    private static final int TEXT_BYTES = 200;
    private static final int BLANK = 32;
    private static final int AT_FAULT = -10;

    // A saying takes in a name a house, and the chief's, ahead of dropping what is too much.
    private static final int SPOKEN_PLACES = PLACES + HOUSES + 1;

    private static final int ITEMS = 5;
    private static final int HOLD = 0, FAR = 1, WEAK = 2, TAKE = 3, STAND = 4;
    private static final int[] LEAST = {2, 0, 0, 0, 0};
    private static final int[] MOST = {12, 6, 99, 99, 99};
    private static final int[] AT_FIRST = {12, 1, 0, 50, 80};

    private final Text text;
    private final Law ruling;
    private final Records now;
    private final Records firstImage;
    private final Records secondImage;
    private final Saying latest;
    private final Saying supposed;
    private final SideBySide sides;
    private final int[] longestTo;
    private int low;
    private int high;
    private long asked;

    public FatherLists() {
        text = new Text();
        ruling = new Law();
        now = new Records();
        firstImage = new Records();
        secondImage = new Records();
        latest = new Saying();
        supposed = new Saying();
        sides = new SideBySide();
        longestTo = new int[PLACES];
        low = 20;
        high = 35;
        asked = 0;
    }

    // ---- texts

    public int type(long v, int n) {
        if (n < 1 || n > 8) {
            return BAD;
        }
        if (text.size + n > TEXT_BYTES) {
            return FULL;
        }
        for (int k = n - 1; k >= 0; k--) {
            text.add((int) (v >>> (8 * k)) & 255);
        }
        return text.size;
    }

    public int clear() {
        return text.empty();
    }

    public int law() {
        int answer = ruling.read(text);
        if (answer >= 0) {
            text.empty();
        }
        return answer;
    }

    public int list(int i) {
        if (!isList(i)) {
            return BAD;
        }
        int fault = text.faultAsList();
        if (fault != NONE) {
            return AT_FAULT - fault;
        }
        Row row = now.lists[i];
        row.read(text);
        text.empty();
        return row.size;
    }

    public int told(int what) {
        return what < 0 || what >= ITEMS ? BAD : ruling.numbers[what];
    }

    public int name(int i, int k) {
        if (!isList(i)) {
            return BAD;
        }
        Row row = now.lists[i];
        if (k == -1) {
            return row.size;
        }
        return row.has(k) ? row.nameAt(k) : BAD;
    }

    public int place(int i, int name) {
        return isList(i) && isName(name) ? now.lists[i].placeOf(name) : BAD;
    }

    // ---- houses, sayings

    public int house(int h, int what, int v) {
        if (!isHouse(h)) {
            return BAD;
        }
        if (what == 0 && isStrength(v)) {
            return exchange(now.houses.strengths, h, v);
        }
        if (what == 1 && isNameOrNone(v)) {
            return exchange(now.houses.claims, h, v);
        }
        return BAD;
    }

    public int held(int name) {
        return isName(name) ? now.houses.heldOf(name) : BAD;
    }

    public int say(int i, int name) {
        if (!isList(i) || !isNameOrNone(name)) {
            return BAD;
        }
        Row row = now.lists[i];
        if (name != NONE && row.placeOf(name) != NONE) {
            return STATE;
        }
        latest.begin(row, now.houses);
        latest.speak(ruling, name);
        row.become(latest.row);
        return row.size;
    }

    public int said(int what) {
        return what < 0 || what > 2 ? BAD : latest.changed(what);
    }

    public int foretold(int i, int h, int v, int what) {
        if (!isList(i) || !isHouse(h) || !isStrength(v) || what < 0 || what > 2) {
            return BAD;
        }
        supposed.begin(now.lists[i], now.houses);
        supposed.houses.strengths[h] = v;
        supposed.speak(ruling, NONE);
        return supposed.changed(what);
    }

    // ---- lists side by side

    public int both(int i, int j, int what) {
        if (!isList(i) || !isList(j)) {
            return BAD;
        }
        Row first = now.lists[i];
        Row second = now.lists[j];
        int inFirst = first.bits();
        int inSecond = second.bits();
        switch (what) {
            case 0:
                return inFirst & ~inSecond;
            case 1:
                return inSecond & ~inFirst;
            case 2:
                return sameOrder(first, second);
            case 3:
                return Integer.bitCount(inFirst & inSecond) - sameOrder(first, second);
            default:
                return BAD;
        }
    }

    public long orders(int set) {
        if (!isSet(set)) {
            return BAD;
        }
        sides.look(now, set);
        return sides.areTooMany() ? STATE : sides.countOrders();
    }

    public int quarrel(int set, int what) {
        if (!isSet(set) || what < 0 || what > 1) {
            return BAD;
        }
        sides.look(now, set);
        if (sides.areTooMany()) {
            return STATE;
        }
        int fewest = sides.fewestWithoutOrder(now, set);
        if (fewest == 0) {
            return NONE;
        }
        return what == 0 ? Integer.bitCount(fewest) : fewest;
    }

    public int ahead(int set, int one, int other) {
        if (!isSet(set) || !isName(one) || !isName(other) || one == other) {
            return BAD;
        }
        sides.look(now, set);
        if (!isIn(sides.all, one) || !isIn(sides.all, other)) {
            return BAD;
        }
        if (sides.areTooMany() || !sides.haveOrder()) {
            return STATE;
        }
        if (isIn(sides.allAheadOf(other), one)) {
            return 1;
        }
        return isIn(sides.allAheadOf(one), other) ? 0 : 2;
    }

    // ---- years, courts

    public int date(int name, int v) {
        if (!isName(name) || (v != NONE && (v < 0 || v > LAST_YEAR))) {
            return BAD;
        }
        return exchange(now.dates, name, v);
    }

    public int link(int what, int v) {
        if (v < 1 || v > LONGEST_LINK) {
            return BAD;
        }
        if (what == 0 && v <= high) {
            int was = low;
            low = v;
            return was;
        }
        if (what == 1 && v >= low) {
            int was = high;
            high = v;
            return was;
        }
        return BAD;
    }

    public int span(int i, int k, int what) {
        if (!isList(i) || what < 0 || what > 1) {
            return NO;
        }
        Row row = now.lists[i];
        if (!row.has(k) || !isAnyDated(row) || !doDatesFit(row)) {
            return NO;
        }
        return what == 0 ? earliest(row, k) : latestYear(row, k);
    }

    public int lost(int i) {
        if (!isList(i)) {
            return BAD;
        }
        Row row = now.lists[i];
        int sum = 0;
        int dated = NONE;
        for (int k = 0; k < row.size; k++) {
            if (dateAt(row, k) == NONE) {
                continue;
            }
            if (dated != NONE) {
                int more = lostBetween(k - dated, dateAt(row, k) - dateAt(row, dated));
                if (more == STATE) {
                    return STATE;
                }
                sum += more;
            }
            dated = k;
        }
        return sum;
    }

    public int court(int set, int one, int other) {
        if (!isSet(set) || !isHouse(one) || !isHouse(other)) {
            return NO;
        }
        int claim = now.houses.claims[one];
        int against = now.houses.claims[other];
        if (claim == NONE || against == NONE) {
            return NO;
        }
        int sum = 0;
        for (int i = 0; i < LISTS; i++) {
            if (isIn(set, i)) {
                Row row = now.lists[i];
                // What a list has not stands behind all that it has.
                sum += Integer.compare(row.placeOrEnd(against), row.placeOrEnd(claim));
            }
        }
        return sum;
    }

    // ---- kinds, images

    public int worth(int kind, int name) {
        if (!isName(name)) {
            return BAD;
        }
        switch (kind) {
            case 0:
                return worthAsName(name);
            case 1:
                return worthAsClaimed(name);
            case 2:
                return worthAsJoined(name);
            case 3:
                return worthAsStood(name);
            case 4:
                return worthAsDated(name);
            case 5:
                return worthAsFar(name);
            default:
                return BAD;
        }
    }

    public int keep(int image) {
        if (image < 0 || image > 1) {
            return BAD;
        }
        Records kept = image == 0 ? firstImage : secondImage;
        kept.become(now);
        kept.isKept = true;
        return now.countNames();
    }

    public int back(int image) {
        if (image < 0 || image > 1) {
            return BAD;
        }
        Records kept = image == 0 ? firstImage : secondImage;
        if (!kept.isKept) {
            return STATE;
        }
        now.become(kept);
        return now.countNames();
    }

    public int count(int what) {
        switch (what) {
            case 0:
                return now.countNames();
            case 1:
                return text.size;
            case 2:
                return countThere(now.houses.claims);
            case 3:
                return countThere(now.dates);
            default:
                return BAD;
        }
    }

    public long trace() {
        return asked;
    }

    // ---- what a number may be

    private static boolean isList(int i) {
        return i >= 0 && i < LISTS;
    }

    private static boolean isSet(int set) {
        return set >= 1 && set < 1 << LISTS;
    }

    private static boolean isName(int name) {
        return name >= 0 && name < NAMES;
    }

    private static boolean isNameOrNone(int name) {
        return name == NONE || isName(name);
    }

    private static boolean isHouse(int h) {
        return h >= 0 && h < HOUSES;
    }

    private static boolean isStrength(int v) {
        return v >= 0 && v <= MOST_STRENGTH;
    }

    private static boolean isIn(int bits, int k) {
        return (bits >> k & 1) != 0;
    }

    private static boolean isLetter(int sign) {
        return sign >= 'a' && sign <= 'z';
    }

    private static boolean isDigit(int sign) {
        return sign >= '0' && sign <= '9';
    }

    private static int exchange(int[] row, int at, int v) {
        int was = row[at];
        row[at] = v;
        return was;
    }

    private static int countThere(int[] row) {
        int there = 0;
        for (int v : row) {
            if (v != NONE) {
                there++;
            }
        }
        return there;
    }

    // ---- two lists

    private int sameOrder(Row first, Row second) {
        int most = 0;
        for (int k = 0; k < first.size && k < PLACES; k++) {
            longestTo[k] = 0;
            int there = second.placeOf(first.nameAt(k));
            if (there != NONE) {
                longestTo[k] = 1 + longestAhead(first, second, k, there);
                most = Math.max(most, longestTo[k]);
            }
        }
        return most;
    }

    private int longestAhead(Row first, Row second, int k, int there) {
        int most = 0;
        for (int j = 0; j < k && j < PLACES; j++) {
            // A name that the second has not is of length 0, so it adds nothing.
            if (second.placeOf(first.nameAt(j)) < there) {
                most = Math.max(most, longestTo[j]);
            }
        }
        return most;
    }

    // ---- years

    private int dateAt(Row row, int k) {
        int name = row.nameAt(k);
        return isName(name) ? now.dates[name] : NONE;
    }

    private boolean isAnyDated(Row row) {
        for (int k = 0; k < row.size; k++) {
            if (dateAt(row, k) != NONE) {
                return true;
            }
        }
        return false;
    }

    private boolean doDatesFit(Row row) {
        for (int k = 0; k < row.size; k++) {
            if (earliest(row, k) > latestYear(row, k)) {
                return false;
            }
        }
        return true;
    }

    private int earliest(Row row, int k) {
        int year = NO;
        for (int j = 0; j < row.size; j++) {
            int date = dateAt(row, j);
            if (date != NONE) {
                year = Math.max(year, date + (k - j) * (j <= k ? low : high));
            }
        }
        return year;
    }

    private int latestYear(Row row, int k) {
        int year = -NO;
        for (int j = 0; j < row.size; j++) {
            int date = dateAt(row, j);
            if (date != NONE) {
                year = Math.min(year, date + (k - j) * (j <= k ? high : low));
            }
        }
        return year;
    }

    private int lostBetween(int links, int years) {
        // A link takes a year at least, so there are no more links than years.
        for (int all = links; all <= years; all++) {
            if (all * low <= years && years <= all * high) {
                return all - links;
            }
        }
        return STATE;
    }

    // ---- kinds, each by what the kind above does

    private int worthAsName(int name) {
        asked += 1;
        int lists = 0;
        for (int i = 0; i < LISTS; i++) {
            if (now.lists[i].placeOf(name) != NONE) {
                lists++;
            }
        }
        return lists;
    }

    private int worthAsClaimed(int name) {
        asked += 10;
        return worthAsName(name) + now.houses.heldOf(name);
    }

    private int worthAsJoined(int name) {
        asked += 100;
        return worthAsName(name) + 2 * now.houses.countBy(name);
    }

    private int worthAsStood(int name) {
        asked += 1000;
        // "up times up" asks the kind above once: the shared runs' trace tells so.
        int up = worthAsJoined(name);
        return up * up;
    }

    private int worthAsDated(int name) {
        asked += 10000;
        int up = worthAsName(name);
        return isName(name) && now.dates[name] != NONE ? up + 7 : up;
    }

    private int worthAsFar(int name) {
        asked += 100000;
        return worthAsDated(name) / 2;
    }

    /** THE TEXT. */
    private static final class Text {
        final int[] bytes = new int[TEXT_BYTES];
        int size = 0;

        void add(int sign) {
            if (size < bytes.length) {
                bytes[size] = sign;
                size++;
            }
        }

        int empty() {
            int was = size;
            size = 0;
            return was;
        }

        int byteAt(int at) {
            return at >= 0 && at < size ? bytes[at] : NONE;
        }

        int afterBlanks(int from) {
            int at = from;
            while (at < size && byteAt(at) == BLANK) {
                at++;
            }
            return at;
        }

        int afterLetters(int from) {
            int at = from;
            while (at < size && isLetter(byteAt(at))) {
                at++;
            }
            return at;
        }

        int afterDigits(int from) {
            int at = from;
            while (at < size && isDigit(byteAt(at))) {
                at++;
            }
            return at;
        }

        /** NONE where no number stands, or one that no law may have. */
        int numberAt(int at) {
            int digits = afterDigits(at) - at;
            if (digits == 1) {
                return byteAt(at) - '0';
            }
            if (digits == 2 && byteAt(at) != '0') {
                return 10 * (byteAt(at) - '0') + byteAt(at + 1) - '0';
            }
            return NONE;
        }

        boolean isWordAt(int at, String word) {
            if (afterLetters(at) - at != word.length()) {
                return false;
            }
            for (int k = 0; k < word.length(); k++) {
                if (byteAt(at + k) != word.charAt(k)) {
                    return false;
                }
            }
            return true;
        }

        int faultAsList() {
            int seen = 0;
            for (int at = 0; at < size; at++) {
                int sign = byteAt(at);
                if (!isLetter(sign) || isIn(seen, sign - 'a') || at >= PLACES) {
                    return at;
                }
                seen |= 1 << sign - 'a';
            }
            return NONE;
        }
    }

    /** THE LAW: its numbers, in the order of told(). */
    private static final class Law {
        final int[] numbers = AT_FIRST.clone();
        final int[] draft = AT_FIRST.clone();

        /** How many items; of a text at fault, what law() answers, and the law stays. */
        int read(Text text) {
            System.arraycopy(AT_FIRST, 0, draft, 0, ITEMS);
            int done = 0;
            int items = 0;
            int at = text.afterBlanks(0);
            while (items < ITEMS && at < text.size) {
                int item = itemAt(text, at);
                if (item == NONE || isIn(done, item)) {
                    return AT_FAULT - at;
                }
                at = text.afterBlanks(text.afterLetters(at));
                int number = text.numberAt(at);
                if (number < LEAST[item] || number > MOST[item]) {
                    return AT_FAULT - at;
                }
                at = text.afterBlanks(text.afterDigits(at));
                if (text.byteAt(at) != ';') {
                    return AT_FAULT - at;
                }
                at = text.afterBlanks(at + 1);
                draft[item] = number;
                done |= 1 << item;
                items++;
            }
            // Once all items are told, nothing more can stand.
            if (at < text.size) {
                return AT_FAULT - at;
            }
            System.arraycopy(draft, 0, numbers, 0, ITEMS);
            return items;
        }

        static int itemAt(Text text, int at) {
            for (int item = 0; item < ITEMS; item++) {
                if (text.isWordAt(at, wordOf(item))) {
                    return item;
                }
            }
            return NONE;
        }

        static String wordOf(int item) {
            switch (item) {
                case HOLD:
                    return "hold";
                case FAR:
                    return "far";
                case WEAK:
                    return "weak";
                case TAKE:
                    return "take";
                default:
                    return "stand";
            }
        }
    }

    /** Names in order, each once. */
    private static final class Row {
        final int[] names;
        int size = 0;

        Row(int places) {
            names = new int[Math.max(places, 0)];
        }

        boolean has(int k) {
            return k >= 0 && k < size;
        }

        int nameAt(int k) {
            return has(k) ? names[k] : NONE;
        }

        int placeOf(int name) {
            for (int k = 0; k < size; k++) {
                if (names[k] == name) {
                    return k;
                }
            }
            return NONE;
        }

        int placeOrEnd(int name) {
            int k = placeOf(name);
            return k == NONE ? size : k;
        }

        int bits() {
            int bits = 0;
            for (int k = 0; k < size; k++) {
                bits |= 1 << names[k];
            }
            return bits;
        }

        void read(Text text) {
            size = 0;
            for (int at = 0; at < text.size; at++) {
                insert(at, text.byteAt(at) - 'a');
            }
        }

        void become(Row other) {
            size = Math.min(other.size, names.length);
            System.arraycopy(other.names, 0, names, 0, size);
        }

        void insert(int at, int name) {
            if (at < 0 || at > size || size >= names.length) {
                return;
            }
            System.arraycopy(names, at, names, at + 1, size - at);
            names[at] = name;
            size++;
        }

        void remove(int at) {
            if (!has(at)) {
                return;
            }
            size--;
            System.arraycopy(names, at + 1, names, at, size - at);
        }

        void swapWithAhead(int at) {
            if (at >= 1 && at < size) {
                int name = names[at];
                names[at] = names[at - 1];
                names[at - 1] = name;
            }
        }
    }

    /** Strengths and claims of all houses. */
    private static final class Houses {
        final int[] strengths = new int[HOUSES];
        final int[] claims = new int[HOUSES];

        Houses() {
            Arrays.fill(claims, NONE);
        }

        void become(Houses other) {
            System.arraycopy(other.strengths, 0, strengths, 0, HOUSES);
            System.arraycopy(other.claims, 0, claims, 0, HOUSES);
        }

        int heldOf(int name) {
            int sum = 0;
            for (int h = 0; h < HOUSES; h++) {
                if (claims[h] == name) {
                    sum += strengths[h];
                }
            }
            return sum;
        }

        int countBy(int name) {
            int houses = 0;
            for (int h = 0; h < HOUSES; h++) {
                if (claims[h] == name) {
                    houses++;
                }
            }
            return houses;
        }

        boolean hasWeakAlone(int name, int weak) {
            for (int h = 0; h < HOUSES; h++) {
                if (claims[h] == name && strengths[h] >= weak) {
                    return false;
                }
            }
            return countBy(name) > 0;
        }
    }

    /** What an image keeps. */
    private static final class Records {
        final Row[] lists = new Row[LISTS];
        final Houses houses = new Houses();
        final int[] dates = new int[NAMES];
        boolean isKept = false;

        Records() {
            for (int i = 0; i < LISTS; i++) {
                lists[i] = new Row(PLACES);
            }
            Arrays.fill(dates, NONE);
        }

        void become(Records other) {
            for (int i = 0; i < LISTS; i++) {
                lists[i].become(other.lists[i]);
            }
            houses.become(other.houses);
            System.arraycopy(other.dates, 0, dates, 0, NAMES);
        }

        int countNames() {
            int sum = 0;
            for (int i = 0; i < LISTS; i++) {
                sum += lists[i].size;
            }
            return sum;
        }
    }

    /** A list that is said: on rows of its own, as what is foretold must change nothing. */
    private static final class Saying {
        final Row row = new Row(SPOKEN_PLACES);
        final Houses houses = new Houses();
        int taken = 0;
        int moved = 0;
        int dropped = 0;

        void begin(Row list, Houses from) {
            row.become(list);
            houses.become(from);
            taken = 0;
            moved = 0;
            dropped = 0;
        }

        void speak(Law law, int chief) {
            int far = law.numbers[FAR];
            takeStrong(far, law.numbers[TAKE], chief);
            moveStrong(far, law.numbers[STAND]);
            dropWeak(far, law.numbers[WEAK]);
            if (chief != NONE) {
                row.insert(row.size, chief);
            }
            dropBeyond(far, law.numbers[HOLD]);
        }

        int changed(int what) {
            return what == 0 ? taken : what == 1 ? moved : dropped;
        }

        void takeStrong(int far, int least, int chief) {
            for (int h = 0; h < HOUSES; h++) {
                int claim = houses.claims[h];
                if (claim == NONE || claim == chief || houses.strengths[h] < least) {
                    continue;
                }
                if (row.placeOf(claim) == NONE) {
                    row.insert(Math.min(far, row.size), claim);
                    taken |= 1 << claim;
                }
            }
        }

        void moveStrong(int far, int least) {
            for (int h = 0; h < HOUSES; h++) {
                int claim = houses.claims[h];
                if (claim == NONE || houses.strengths[h] < least) {
                    continue;
                }
                int at = row.placeOf(claim);
                if (at > far) {
                    row.swapWithAhead(at);
                    moved |= 1 << claim;
                }
            }
        }

        void dropWeak(int far, int weak) {
            for (int k = row.size - 1; k >= far; k--) {
                if (houses.hasWeakAlone(row.nameAt(k), weak)) {
                    drop(k);
                }
            }
        }

        void dropBeyond(int far, int hold) {
            for (int over = row.size - hold; over > 0 && row.size - 1 > far; over--) {
                drop(leastHeld(far));
            }
        }

        int leastHeld(int far) {
            int least = far;
            for (int k = far + 1; k < row.size - 1; k++) {
                if (houses.heldOf(row.nameAt(k)) < houses.heldOf(row.nameAt(least))) {
                    least = k;
                }
            }
            return least;
        }

        void drop(int k) {
            if (row.has(k)) {
                dropped |= 1 << row.nameAt(k);
                row.remove(k);
            }
        }
    }

    /** Some lists looked at together. */
    private static final class SideBySide {
        final int[] before = new int[NAMES];
        final int[] needed = new int[PLACES];
        final long[] ways = new long[1 << PLACES];
        int all = 0;

        void look(Records from, int set) {
            Arrays.fill(before, 0);
            all = 0;
            for (int i = 0; i < LISTS; i++) {
                if (isIn(set, i)) {
                    lookAt(from.lists[i]);
                }
            }
        }

        void lookAt(Row row) {
            int passed = 0;
            for (int k = 0; k < row.size; k++) {
                int name = row.nameAt(k);
                if (isName(name)) {
                    before[name] |= passed;
                    passed |= 1 << name;
                }
            }
            all |= passed;
        }

        boolean areTooMany() {
            return Integer.bitCount(all) > PLACES;
        }

        boolean haveOrder() {
            int placed = 0;
            for (int round = 0; round < NAMES && placed != all; round++) {
                int more = withAllThatCanBeNext(placed);
                if (more == placed) {
                    return false;
                }
                placed = more;
            }
            return placed == all;
        }

        int withAllThatCanBeNext(int placed) {
            int more = placed;
            for (int name = 0; name < NAMES; name++) {
                if (isIn(all, name) && (before[name] & ~placed) == 0) {
                    more |= 1 << name;
                }
            }
            return more;
        }

        int allAheadOf(int name) {
            int found = isName(name) ? before[name] : 0;
            for (int round = 0; round < NAMES; round++) {
                int more = withAllAhead(found);
                if (more == found) {
                    return found;
                }
                found = more;
            }
            return found;
        }

        int withAllAhead(int names) {
            int more = names;
            for (int name = 0; name < NAMES; name++) {
                if (isIn(names, name)) {
                    more |= before[name];
                }
            }
            return more;
        }

        /** Looks at other sets on its way: look again behind it. */
        int fewestWithoutOrder(Records from, int set) {
            for (int lists = 2; lists <= LISTS; lists++) {
                for (int part = 1; part <= set; part++) {
                    if ((part & ~set) == 0 && Integer.bitCount(part) == lists) {
                        look(from, part);
                        if (!haveOrder()) {
                            return part;
                        }
                    }
                }
            }
            return 0;
        }

        long countOrders() {
            int size = fillNeeded();
            int full = (1 << size) - 1;
            for (int placed = 0; placed <= full; placed++) {
                ways[placed] = 0;
            }
            ways[0] = 1;
            for (int placed = 0; placed < full; placed++) {
                if (ways[placed] != 0) {
                    goOnFrom(placed, size);
                }
            }
            return ways[full];
        }

        void goOnFrom(int placed, int size) {
            for (int k = 0; k < size; k++) {
                if (!isIn(placed, k) && (needed[k] & ~placed) == 0) {
                    ways[placed | 1 << k] += ways[placed];
                }
            }
        }

        /** Names are numbered anew, without gaps, so that a row of ways can have all their sets. */
        int fillNeeded() {
            int size = 0;
            for (int name = 0; name < NAMES && size < PLACES; name++) {
                if (isIn(all, name)) {
                    needed[size] = withoutGaps(before[name]);
                    size++;
                }
            }
            return size;
        }

        int withoutGaps(int bits) {
            int packed = 0;
            int k = 0;
            for (int name = 0; name < NAMES; name++) {
                if (isIn(all, name)) {
                    packed |= isIn(bits, name) ? 1 << k : 0;
                    k++;
                }
            }
            return packed;
        }
    }
}
