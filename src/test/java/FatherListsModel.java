import java.util.ArrayList;
import java.util.BitSet;
import java.util.Collections;
import java.util.HashMap;
import java.util.List;
import java.util.Map;
import java.util.Random;
import java.util.TreeSet;
import java.util.regex.Matcher;
import java.util.regex.Pattern;

/** Long runs of calls, each answer against a model that works it out slowly and in another way. */
public final class FatherListsModel {
    private static final int RUNS = 1200, CALLS = 512;
    private static final int BAD = -1, STATE = -2, FULL = -3, NONE = -9, NO = -1000000;

    public static void main(String[] args) {
        Map<String, Integer> answered = new HashMap<>();
        for (int run = 0; run < RUNS; run++) {
            String wrong = new Run(new Random(run), answered).go();
            if (wrong != null) {
                System.out.println("run " + run + ": " + wrong);
                System.exit(1);
            }
        }
        for (Map.Entry<String, Integer> e : answered.entrySet()) {
            if (e.getValue() < 50) {
                System.out.println("hardly ever good: " + e);
                System.exit(1);
            }
        }
        System.out.println("class and model agree in " + RUNS + " runs");
    }

    // ---- a run

    private static final class Run {
        final Random random;
        final Map<String, Integer> answered;
        final FatherLists x = new FatherLists();
        final Model m = new Model();
        final int pool;
        final List<String> log = new ArrayList<>();

        Run(Random random, Map<String, Integer> answered) {
            this.random = random;
            this.answered = answered;
            pool = random.nextInt(4) == 0 ? 26 : 3 + random.nextInt(10);
        }

        String go() {
            for (int k = 0; k < CALLS; k++) {
                if (!step(random.nextInt(36))) {
                    return String.join("\n  ", log.subList(Math.max(0, log.size() - 60), log.size()));
                }
            }
            return null;
        }

        int upTo(int n) {
            return random.nextInt(25) == 0 ? (random.nextBoolean() ? n : -1) : random.nextInt(n);
        }

        int aName() {
            return random.nextInt(40) == 0 ? new int[] {-1, 26, NONE, 1000}[random.nextInt(4)] : random.nextInt(pool);
        }

        int aNameOrNone() {
            return random.nextInt(6) == 0 ? NONE : aName();
        }

        int aStrength() {
            return random.nextInt(40) == 0 ? new int[] {-1, 100, NONE}[random.nextInt(3)] : random.nextInt(100);
        }

        int aSet() {
            return random.nextInt(40) == 0 ? new int[] {0, 16, -1}[random.nextInt(3)] : 1 + random.nextInt(15);
        }

        int aDate() {
            int kind = random.nextInt(20);
            return kind == 0 ? new int[] {-1, 2001, 2000, 0}[random.nextInt(4)]
                : kind < 8 ? NONE : random.nextInt(kind < 10 ? 2001 : 300);
        }

        String listText() {
            List<Integer> names = new ArrayList<>();
            for (int n = 0; n < pool; n++) {
                names.add(n);
            }
            Collections.shuffle(names, random);
            if (random.nextInt(3) != 0) {
                Collections.sort(names.subList(0, Math.min(names.size(), 5)));
            }
            int size = Math.min(pool, random.nextInt(random.nextInt(3) == 0 ? 14 : 7));
            StringBuilder b = new StringBuilder();
            for (int n : names.subList(0, size)) {
                b.append((char) ('a' + n));
            }
            return random.nextInt(10) == 0 ? spoiled(b) : b.toString();
        }

        String lawText() {
            String[] words = {"hold", "far", "weak", "take", "stand"};
            int[] mosts = {12, 6, 99, 99, 99};
            List<Integer> items = new ArrayList<>(List.of(0, 1, 2, 3, 4));
            Collections.shuffle(items, random);
            StringBuilder b = new StringBuilder();
            for (int k = random.nextInt(6); k > 0; k--) {
                int item = items.get(random.nextInt(12) == 0 ? 0 : k - 1);
                int number = random.nextInt(mosts[item] + 1) + (random.nextInt(30) == 0 ? 1 : 0);
                b.append(blanks()).append(words[item]).append(blanks());
                b.append(item == 0 && number < 2 && random.nextInt(4) != 0 ? 4 : number).append(blanks()).append(';');
            }
            return random.nextInt(4) == 0 ? spoiled(b) : b + blanks();
        }

        String blanks() {
            return " ".repeat(Math.max(0, random.nextInt(5) - 2));
        }

        String spoiled(StringBuilder b) {
            int at = b.length() == 0 ? 0 : random.nextInt(b.length());
            switch (random.nextInt(4)) {
                case 0:
                    return b.substring(0, at);
                case 1:
                    return b.insert(at, (char) random.nextInt(256)).toString();
                case 2:
                    return b.insert(at, " ;05aholdz".charAt(random.nextInt(10))).toString();
                default:
                    return b.length() == 0 ? "" : b.deleteCharAt(at).toString();
            }
        }

        boolean typed(String text) {
            if (random.nextInt(8) != 0 && !same("clear", "()", x.clear(), m.clear())) {
                return false;
            }
            int at = 0;
            while (at < text.length()) {
                int n = Math.min(text.length() - at, 1 + random.nextInt(8));
                long v = random.nextLong();
                for (int k = 0; k < n; k++) {
                    v = v << 8 | text.charAt(at + k);
                }
                if (!same("type", "(" + text.substring(at, at + n) + ")", x.type(v, n), m.type(text.substring(at, at + n)))) {
                    return false;
                }
                at += n;
            }
            return true;
        }

        boolean same(String call, String args, long got, long want) {
            log.add(call + args + " answered " + got + (got == want ? "" : ", due is " + want));
            if (got >= 0) {
                answered.merge(call + (call.equals("ahead") ? " " + got : ""), 1, Integer::sum);
            }
            return got == want;
        }

        boolean step(int call) {
            return call < 14 ? stepOfTexts(call) : call < 22 ? stepOfHouses(call) : stepOfTheRest(call);
        }

        boolean stepOfTexts(int call) {
            int i = upTo(4);
            int name = aName();
            int k = random.nextInt(14) - 1;
            switch (call) {
                case 0:
                case 1:
                    return typed(lawText()) && same("law", "()", x.law(), m.law());
                case 2:
                case 3:
                case 4:
                    return typed(listText()) && same("list", "(" + i + ")", x.list(i), m.list(i));
                case 5:
                    return same("told", "(" + k + ")", x.told(k), m.told(k));
                case 6:
                    return same("name", "(" + i + ", " + k + ")", x.name(i, k), m.name(i, k));
                case 7:
                    return same("place", "(" + i + ", " + name + ")", x.place(i, name), m.place(i, name));
                case 8:
                    int image = upTo(2);
                    return same("keep", "(" + image + ")", x.keep(image), m.keep(image));
                case 9:
                    int kept = upTo(2);
                    return same("back", "(" + kept + ")", x.back(kept), m.back(kept));
                case 10:
                    int what = upTo(4);
                    return same("count", "(" + what + ")", x.count(what), m.count(what));
                case 11:
                    return same("trace", "()", x.trace(), m.trace);
                case 12:
                    return random.nextInt(30) != 0 || typed("hold 5;".repeat(29)) && same("law", "()", x.law(), m.law());
                default:
                    int kind = upTo(6);
                    return same("worth", "(" + kind + ", " + name + ")", x.worth(kind, name), m.worth(kind, name));
            }
        }

        boolean stepOfHouses(int call) {
            int i = upTo(4);
            int h = upTo(6);
            int what = upTo(3);
            int name = aNameOrNone();
            int v = aStrength();
            switch (call) {
                case 14:
                case 15:
                    return same("house", "(" + h + ", 0, " + v + ")", x.house(h, 0, v), m.house(h, 0, v));
                case 16:
                    return same("house", "(" + h + ", 1, " + name + ")", x.house(h, 1, name), m.house(h, 1, name));
                case 17:
                    return same("held", "(" + name + ")", x.held(name), m.held(name));
                case 18:
                    return same("said", "(" + what + ")", x.said(what), m.said(what));
                case 19:
                    return same("foretold", "(" + i + ", " + h + ", " + v + ", " + what + ")",
                        x.foretold(i, h, v, what), m.foretold(i, h, v, what));
                default:
                    return same("say", "(" + i + ", " + name + ")", x.say(i, name), m.say(i, name)) && sameList(i);
            }
        }

        boolean sameList(int i) {
            for (int k = -1; k < 13; k++) {
                if (!same("name", "(" + i + ", " + k + ")", x.name(i, k), m.name(i, k))) {
                    return false;
                }
            }
            return same("said", "(0)", x.said(0), m.said(0)) && same("said", "(1)", x.said(1), m.said(1))
                && same("said", "(2)", x.said(2), m.said(2));
        }

        boolean stepOfTheRest(int call) {
            int i = upTo(4);
            int j = upTo(4);
            int set = aSet();
            int name = aName();
            int other = aName();
            int what = upTo(2);
            int k = random.nextInt(14) - 1;
            switch (call) {
                case 22:
                case 23:
                    int four = upTo(4);
                    return same("both", "(" + i + ", " + j + ", " + four + ")", x.both(i, j, four), m.both(i, j, four));
                case 24:
                case 25:
                    return same("orders", "(" + set + ")", x.orders(set), m.orders(set));
                case 26:
                    return same("quarrel", "(" + set + ", " + what + ")", x.quarrel(set, what), m.quarrel(set, what));
                case 27:
                case 28:
                    return same("ahead", "(" + set + ", " + name + ", " + other + ")",
                        x.ahead(set, name, other), m.ahead(set, name, other));
                case 29:
                case 30:
                    int v = aDate();
                    return same("date", "(" + name + ", " + v + ")", x.date(name, v), m.date(name, v));
                case 31:
                    int years = random.nextInt(64) - 1;
                    return same("link", "(" + what + ", " + years + ")", x.link(what, years), m.link(what, years));
                case 32:
                case 33:
                    return same("span", "(" + i + ", " + k + ", " + what + ")", x.span(i, k, what), m.span(i, k, what));
                case 34:
                    return same("lost", "(" + i + ")", x.lost(i), m.lost(i));
                default:
                    int h = upTo(6);
                    int g = upTo(6);
                    return same("court", "(" + set + ", " + h + ", " + g + ")", x.court(set, h, g), m.court(set, h, g));
            }
        }
    }

    // ---- the model

    private static final class State {
        List<List<Integer>> lists = new ArrayList<>();
        int[] strength = new int[6];
        int[] claim = {NONE, NONE, NONE, NONE, NONE, NONE};
        Map<Integer, Integer> dates = new HashMap<>();

        State copy() {
            State s = new State();
            for (List<Integer> l : lists) {
                s.lists.add(new ArrayList<>(l));
            }
            s.strength = strength.clone();
            s.claim = claim.clone();
            s.dates.putAll(dates);
            return s;
        }

        int names() {
            return lists.stream().mapToInt(List::size).sum();
        }
    }

    private static final class Model {
        State s = new State();
        final State[] images = new State[2];
        final int[] link = {20, 35};
        String text = "";
        Map<String, Integer> law = firstLaw();
        int[] said = new int[3];
        long trace = 0;

        Model() {
            for (int i = 0; i < 4; i++) {
                s.lists.add(new ArrayList<>());
            }
        }

        static Map<String, Integer> firstLaw() {
            return new HashMap<>(Map.of("hold", 12, "far", 1, "weak", 0, "take", 50, "stand", 80));
        }

        static boolean in(int v, int least, int most) {
            return least <= v && v <= most;
        }

        // -- texts

        int type(String more) {
            if (text.length() + more.length() > 200) {
                return FULL;
            }
            text += more;
            return text.length();
        }

        int clear() {
            int was = text.length();
            text = "";
            return was;
        }

        int law() {
            Map<String, Integer> told = firstLaw();
            Map<String, Integer> least = Map.of("hold", 2);
            Map<String, Integer> most = Map.of("hold", 12, "far", 6);
            TreeSet<String> done = new TreeSet<>();
            Matcher tokens = Pattern.compile("(?s)[a-z]+|[0-9]+|[^ ]").matcher(text);
            int expected = 0;
            String item = "";
            while (tokens.find()) {
                String t = tokens.group();
                boolean fits = expected == 0 ? told.containsKey(t) && !done.contains(t)
                    : expected == 1 ? t.matches("0|[1-9][0-9]?")
                        && in(Integer.parseInt(t), least.getOrDefault(item, 0), most.getOrDefault(item, 99))
                    : t.equals(";");
                if (!fits) {
                    return -10 - tokens.start();
                }
                if (expected == 0) {
                    item = t;
                    done.add(t);
                } else if (expected == 1) {
                    told.put(item, Integer.parseInt(t));
                }
                expected = (expected + 1) % 3;
            }
            if (expected != 0) {
                return -10 - text.length();
            }
            text = "";
            law = told;
            return done.size();
        }

        int list(int i) {
            if (!in(i, 0, 3)) {
                return BAD;
            }
            List<Integer> names = new ArrayList<>();
            for (char c : text.toCharArray()) {
                if (names.size() == 12 || "abcdefghijklmnopqrstuvwxyz".indexOf(c) < 0 || names.contains(c - 'a')) {
                    return -10 - names.size();
                }
                names.add(c - 'a');
            }
            s.lists.set(i, names);
            text = "";
            return names.size();
        }

        int told(int what) {
            return in(what, 0, 4) ? law.get(List.of("hold", "far", "weak", "take", "stand").get(what)) : BAD;
        }

        int name(int i, int k) {
            if (!in(i, 0, 3) || !in(k, -1, s.lists.get(i).size() - 1)) {
                return BAD;
            }
            return k == -1 ? s.lists.get(i).size() : s.lists.get(i).get(k);
        }

        int place(int i, int name) {
            if (!in(i, 0, 3) || !in(name, 0, 25)) {
                return BAD;
            }
            int k = s.lists.get(i).indexOf(name);
            return k < 0 ? NONE : k;
        }

        // -- houses

        int house(int h, int what, int v) {
            boolean good = in(h, 0, 5) && (what == 0 ? in(v, 0, 99) : v == NONE || in(v, 0, 25));
            if (!good) {
                return BAD;
            }
            int[] row = what == 0 ? s.strength : s.claim;
            int was = row[h];
            row[h] = v;
            return was;
        }

        int held(int name) {
            return in(name, 0, 25) ? held(name, s.strength) : BAD;
        }

        int held(int name, int[] strength) {
            int sum = 0;
            for (int h = 0; h < 6; h++) {
                sum += s.claim[h] == name ? strength[h] : 0;
            }
            return sum;
        }

        int say(int i, int name) {
            if (!in(i, 0, 3) || name != NONE && !in(name, 0, 25)) {
                return BAD;
            }
            if (s.lists.get(i).contains(name)) {
                return STATE;
            }
            said = speak(s.lists.get(i), s.strength, name);
            return s.lists.get(i).size();
        }

        int said(int what) {
            return in(what, 0, 2) ? said[what] : BAD;
        }

        int foretold(int i, int h, int v, int what) {
            if (!in(i, 0, 3) || !in(h, 0, 5) || !in(v, 0, 99) || !in(what, 0, 2)) {
                return BAD;
            }
            int[] strength = s.strength.clone();
            strength[h] = v;
            return speak(new ArrayList<>(s.lists.get(i)), strength, NONE)[what];
        }

        int[] speak(List<Integer> list, int[] strength, int chief) {
            int[] bits = new int[3];
            int f = law.get("far");
            for (int h = 0; h < 6; h++) {
                int c = s.claim[h];
                if (c != NONE && strength[h] >= law.get("take") && !list.contains(c) && c != chief) {
                    list.add(list.size() < f ? list.size() : f, c);
                    bits[0] |= 1 << c;
                }
            }
            for (int h = 0; h < 6; h++) {
                int at = list.indexOf(s.claim[h]);
                if (strength[h] >= law.get("stand") && at > f) {
                    Collections.swap(list, at, at - 1);
                    bits[1] |= 1 << s.claim[h];
                }
            }
            List<Integer> behind = list.size() > f ? list.subList(f, list.size()) : new ArrayList<>();
            for (int name : new ArrayList<>(behind)) {
                int strongest = -1;
                for (int h = 0; h < 6; h++) {
                    strongest = s.claim[h] == name ? Math.max(strongest, strength[h]) : strongest;
                }
                if (strongest >= 0 && strongest < law.get("weak")) {
                    behind.remove((Integer) name);
                    bits[2] |= 1 << name;
                }
            }
            if (chief != NONE) {
                list.add(chief);
            }
            while (list.size() > law.get("hold") && list.size() >= f + 2) {
                List<Integer> may = list.subList(f, list.size() - 1);
                int least = may.stream().mapToInt(n -> held(n, strength)).min().getAsInt();
                int out = may.stream().filter(n -> held(n, strength) == least).findFirst().get();
                list.remove((Integer) out);
                bits[2] |= 1 << out;
            }
            return bits;
        }

        // -- lists side by side

        int both(int i, int j, int what) {
            if (!in(i, 0, 3) || !in(j, 0, 3) || !in(what, 0, 3)) {
                return BAD;
            }
            List<Integer> one = s.lists.get(i);
            List<Integer> two = s.lists.get(j);
            if (what < 2) {
                List<Integer> rest = new ArrayList<>(what == 0 ? one : two);
                rest.removeAll(what == 0 ? two : one);
                return rest.stream().mapToInt(n -> 1 << n).sum();
            }
            List<Integer> common = new ArrayList<>(one);
            common.retainAll(two);
            int same = 0;
            for (int part = 0; part < 1 << common.size(); part++) {
                int last = -1;
                boolean rises = true;
                for (int k = 0; k < common.size(); k++) {
                    if ((part >> k & 1) != 0) {
                        int at = two.indexOf(common.get(k));
                        rises &= at > last;
                        last = at;
                    }
                }
                same = rises ? Math.max(same, Integer.bitCount(part)) : same;
            }
            return what == 2 ? same : common.size() - same;
        }

        List<List<Integer>> some(int set) {
            List<List<Integer>> some = new ArrayList<>();
            for (int i = 0; i < 4; i++) {
                if ((set >> i & 1) != 0) {
                    some.add(s.lists.get(i));
                }
            }
            return some;
        }

        TreeSet<Integer> names(int set) {
            TreeSet<Integer> names = new TreeSet<>();
            some(set).forEach(names::addAll);
            return names;
        }

        /** Takes heads of lists away that stand nowhere else but at a head. */
        static long orders(List<List<Integer>> lists, Map<List<List<Integer>>, Long> known) {
            if (lists.stream().allMatch(List::isEmpty)) {
                return 1;
            }
            Long was = known.get(lists);
            if (was != null) {
                return was;
            }
            TreeSet<Integer> heads = new TreeSet<>();
            lists.forEach(l -> heads.addAll(l.subList(0, Math.min(1, l.size()))));
            heads.removeIf(n -> lists.stream().anyMatch(l -> l.indexOf(n) > 0));
            long sum = 0;
            for (int head : heads) {
                List<List<Integer>> rest = new ArrayList<>();
                lists.forEach(l -> rest.add(l.indexOf(head) == 0 ? l.subList(1, l.size()) : l));
                sum += orders(rest, known);
            }
            known.put(lists, sum);
            return sum;
        }

        static long orders(List<List<Integer>> lists) {
            return orders(lists, new HashMap<>());
        }

        long orders(int set) {
            return !in(set, 1, 15) ? BAD : names(set).size() > 12 ? STATE : orders(some(set));
        }

        int quarrel(int set, int what) {
            if (!in(set, 1, 15) || !in(what, 0, 1)) {
                return BAD;
            }
            if (names(set).size() > 12) {
                return STATE;
            }
            int best = 0;
            for (int part = 15; part > 0; part--) {
                if ((part & set) == part && orders(some(part)) == 0
                    && (best == 0 || Integer.bitCount(part) <= Integer.bitCount(best))) {
                    best = part;
                }
            }
            return best == 0 ? NONE : what == 0 ? Integer.bitCount(best) : best;
        }

        int ahead(int set, int one, int other) {
            if (!in(set, 1, 15) || one == other || !names(set).contains(one) || !names(set).contains(other)) {
                return BAD;
            }
            if (names(set).size() > 12 || orders(some(set)) == 0) {
                return STATE;
            }
            List<List<Integer>> turned = some(set);
            turned.add(List.of(other, one));
            List<List<Integer>> so = some(set);
            so.add(List.of(one, other));
            return orders(turned) == 0 ? 1 : orders(so) == 0 ? 0 : 2;
        }

        // -- years, courts

        int date(int name, int v) {
            if (!in(name, 0, 25) || v != NONE && !in(v, 0, 2000)) {
                return BAD;
            }
            Integer was = v == NONE ? s.dates.remove(name) : s.dates.put(name, v);
            return was == null ? NONE : was;
        }

        int link(int what, int v) {
            if (!in(what, 0, 1) || !in(v, what == 0 ? 1 : link[0], what == 0 ? link[1] : 60)) {
                return BAD;
            }
            int was = link[what];
            link[what] = v;
            return was;
        }

        /** All years that a place can have by what is dated on one side of it. */
        BitSet years(List<Integer> list, int k, int step) {
            int zero = 1000;
            BitSet here = new BitSet();
            if (k - step < 0 || k - step >= list.size()) {
                here.set(0, 4000);
            } else {
                BitSet there = years(list, k - step, step);
                for (int y = there.nextSetBit(0); y >= 0; y = there.nextSetBit(y + 1)) {
                    int from = step > 0 ? y + link[0] : y - link[1];
                    int to = step > 0 ? y + link[1] : y - link[0];
                    here.set(Math.max(0, from), Math.max(0, to + 1));
                }
            }
            Integer date = s.dates.get(list.get(k));
            if (date != null) {
                boolean can = here.get(date + zero);
                here.clear();
                here.set(date + zero, can);
            }
            return here;
        }

        int span(int i, int k, int what) {
            if (!in(i, 0, 3) || !in(what, 0, 1) || !in(k, 0, s.lists.get(i).size() - 1)) {
                return NO;
            }
            List<Integer> list = s.lists.get(i);
            if (list.stream().noneMatch(s.dates::containsKey)) {
                return NO;
            }
            BitSet years = years(list, k, 1);
            years.and(years(list, k, -1));
            return years.isEmpty() ? NO : (what == 0 ? years.nextSetBit(0) : years.length() - 1) - 1000;
        }

        int lost(int i) {
            if (!in(i, 0, 3)) {
                return BAD;
            }
            List<Integer> list = new ArrayList<>(s.lists.get(i));
            int sum = 0;
            int links = 0;
            Integer last = null;
            for (int name : list) {
                links++;
                Integer date = s.dates.get(name);
                if (date == null) {
                    continue;
                }
                if (last != null) {
                    int more = 0;
                    while (more < 3000 && !in(date - last, (links + more) * link[0], (links + more) * link[1])) {
                        more++;
                    }
                    if (more == 3000) {
                        return STATE;
                    }
                    sum += more;
                }
                last = date;
                links = 0;
            }
            return sum;
        }

        int court(int set, int one, int other) {
            if (!in(set, 1, 15) || !in(one, 0, 5) || !in(other, 0, 5)) {
                return NO;
            }
            int a = s.claim[one];
            int b = s.claim[other];
            if (a == NONE || b == NONE) {
                return NO;
            }
            int sum = 0;
            for (List<Integer> list : some(set)) {
                for (int name : list) {
                    if (name == a || name == b) {
                        sum += a == b ? 0 : name == a ? 1 : -1;
                        break;
                    }
                }
            }
            return sum;
        }

        // -- kinds, images

        int worth(int kind, int name) {
            if (!in(kind, 0, 5) || !in(name, 0, 25)) {
                return BAD;
            }
            trace += new int[] {1, 11, 101, 1101, 10001, 110001}[kind];
            int lists = (int) s.lists.stream().filter(l -> l.contains(name)).count();
            int by = 0;
            for (int c : s.claim) {
                by += c == name ? 1 : 0;
            }
            int dated = lists + (s.dates.containsKey(name) ? 7 : 0);
            int joined = lists + 2 * by;
            return new int[] {lists, lists + held(name), joined, joined * joined, dated, dated / 2}[kind];
        }

        int keep(int image) {
            if (!in(image, 0, 1)) {
                return BAD;
            }
            images[image] = s.copy();
            return s.names();
        }

        int back(int image) {
            if (!in(image, 0, 1)) {
                return BAD;
            }
            if (images[image] == null) {
                return STATE;
            }
            s = images[image].copy();
            return s.names();
        }

        int count(int what) {
            int by = 0;
            for (int c : s.claim) {
                by += c == NONE ? 0 : 1;
            }
            return in(what, 0, 3) ? new int[] {s.names(), text.length(), by, s.dates.size()}[what] : BAD;
        }
    }
}
