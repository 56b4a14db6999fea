import java.util.ArrayList;
import java.util.Arrays;
import java.util.List;
import java.util.function.IntPredicate;
import java.util.regex.Matcher;
import java.util.regex.Pattern;

/**
 * A second, slow and plain HeavyPairs, written from the document by other means: it lists all
 * pairings and all rows, and picks among them.
 */
final class Plain {
    static final List<String> TOLD = List.of("point", "link", "pair", "price", "odd", "part", "weigh", "crown", "open",
            "grow", "or", "and", "not", "lone", "tight", "with", "linked", "in", "priced", "links", "weight", "number");

    static final class State implements Cloneable {
        List<String> names = new ArrayList<>();
        List<int[]> links = new ArrayList<>();
        int[] partner = new int[10];
        int[] price = new int[10];
        List<int[]> sets = new ArrayList<>();
        int turned = 0;
        int shrunk = 0;

        State copy() {
            State s = new State();
            s.names = new ArrayList<>(names);
            for (int[] l : links) {
                s.links.add(l.clone());
            }
            s.partner = partner.clone();
            s.price = price.clone();
            for (int[] o : sets) {
                s.sets.add(o.clone());
            }
            s.turned = turned;
            s.shrunk = shrunk;
            return s;
        }

        int size() {
            return names.size();
        }

        boolean has(int p) {
            return p >= 0 && p < names.size();
        }

        int linkOf(int p, int q) {
            for (int l = 0; l < links.size(); l++) {
                int[] k = links.get(l);
                if (k[0] == p && k[1] == q || k[0] == q && k[1] == p) {
                    return l;
                }
            }
            return -1;
        }

        boolean linked(int p, int q) {
            return linkOf(p, q) >= 0;
        }

        int slack(int l) {
            int[] k = links.get(l);
            int sum = price[k[0]] + price[k[1]];
            for (int[] o : sets) {
                if ((o[0] & 1 << k[0]) != 0 && (o[0] & 1 << k[1]) != 0) {
                    sum += o[1];
                }
            }
            return sum - 2 * k[2];
        }

        boolean inPair(int l) {
            return partner[links.get(l)[0]] == links.get(l)[1];
        }

        int total() {
            int sum = 0;
            for (int p = 0; p < size(); p++) {
                if (partner[p] > p) {
                    sum += links.get(linkOf(p, partner[p]))[2];
                }
            }
            return sum;
        }

        int pairs() {
            int n = 0;
            for (int p = 0; p < size(); p++) {
                if (partner[p] > p) {
                    n++;
                }
            }
            return n;
        }

        int within(int k) {
            int n = 0;
            for (int p = 0; p < size(); p++) {
                if (partner[p] > p && (sets.get(k)[0] & 1 << p) != 0 && (sets.get(k)[0] & 1 << partner[p]) != 0) {
                    n++;
                }
            }
            return n;
        }

        int bound() {
            int sum = 0;
            for (int p = 0; p < size(); p++) {
                sum += price[p];
            }
            for (int[] o : sets) {
                sum += o[1] * ((Integer.bitCount(o[0]) - 1) / 2);
            }
            return sum;
        }

        int pair(int p, int q) {
            if (!linked(p, q)) {
                return 1;
            }
            if (partner[p] >= 0 || partner[q] >= 0) {
                return 2;
            }
            partner[p] = q;
            partner[q] = p;
            return 0;
        }

        int part(int p) {
            if (partner[p] < 0) {
                return 1;
            }
            partner[partner[p]] = -1;
            partner[p] = -1;
            return 0;
        }

        int weigh(int p, int q, int w) {
            if (!linked(p, q)) {
                return 1;
            }
            int[] k = links.get(linkOf(p, q));
            if (k[2] == w) {
                return 2;
            }
            k[2] = w;
            return 0;
        }

        int price(int p, int n) {
            if (price[p] == n) {
                return 1;
            }
            price[p] = n;
            return 0;
        }

        int crown(int k, int n) {
            if (sets.get(k)[1] == n) {
                return 1;
            }
            sets.get(k)[1] = n;
            return 0;
        }

        int open(int k) {
            if (sets.get(k)[1] > 0) {
                return 1;
            }
            sets.remove(k);
            return 0;
        }

        /** All rows that could be a PATH; the first by length, then POINT by POINT. */
        int[] path(int p) {
            if (partner[p] >= 0) {
                return null;
            }
            List<int[]> all = new ArrayList<>();
            List<Integer> row = new ArrayList<>();
            row.add(p);
            rows(row, all);
            int[] first = null;
            for (int[] r : all) {
                if (isPath(r) && (first == null || before(r, first))) {
                    first = r;
                }
            }
            return first;
        }

        int[] flower(int p) {
            List<int[]> all = new ArrayList<>();
            List<Integer> row = new ArrayList<>();
            row.add(p);
            rows(row, all);
            int[] first = null;
            for (int[] r : all) {
                if (isFlower(r) && (first == null || before(r, first))) {
                    first = r;
                }
            }
            return first;
        }

        /** All rows of unlike LINKED POINTS, the second and third, fourth and fifth of which are pairs. */
        void rows(List<Integer> row, List<int[]> all) {
            all.add(row.stream().mapToInt(Integer::intValue).toArray());
            int at = row.get(row.size() - 1);
            for (int q = 0; q < size(); q++) {
                boolean pairDue = row.size() % 2 == 0;
                if (linked(at, q) && !row.contains(q) && pairDue == (partner[at] == q)) {
                    row.add(q);
                    rows(row, all);
                    row.remove(row.size() - 1);
                }
            }
        }

        boolean isPath(int[] r) {
            if (r.length < 2 || r.length % 2 != 0) {
                return false;
            }
            for (int i = 0; i < r.length; i++) {
                if (!has(r[i])) {
                    return false;
                }
            }
            for (int i = 0; i + 1 < r.length; i++) {
                if (!linked(r[i], r[i + 1]) || (i % 2 == 1) != (partner[r[i]] == r[i + 1])) {
                    return false;
                }
            }
            return partner[r[0]] < 0 && partner[r[r.length - 1]] < 0;
        }

        boolean isFlower(int[] r) {
            if (r.length < 3 || r.length % 2 != 1) {
                return false;
            }
            for (int i = 0; i < r.length; i++) {
                if (!has(r[i])) {
                    return false;
                }
            }
            for (int i = 0; i < r.length; i++) {
                if (!linked(r[i], r[(i + 1) % r.length])) {
                    return false;
                }
                if (i % 2 == 1 && partner[r[i]] != r[i + 1]) {
                    return false;
                }
            }
            return true;
        }

        static boolean before(int[] a, int[] b) {
            return a.length != b.length ? a.length < b.length : Arrays.compare(a, b) < 0;
        }

        int turn(int[] r) {
            if (r == null || !isPath(r)) {
                return 1;
            }
            for (int i = 1; i + 1 < r.length; i += 2) {
                part(r[i]);
            }
            for (int i = 0; i + 1 < r.length; i += 2) {
                pair(r[i], r[i + 1]);
            }
            turned++;
            return 0;
        }

        int shrink(int[] r) {
            if (r == null || !isFlower(r)) {
                return 1;
            }
            int bits = 0;
            for (int p : r) {
                bits |= 1 << p;
            }
            for (int[] o : sets) {
                if (o[0] == bits) {
                    return 2;
                }
            }
            if (sets.size() == 6) {
                return 3;
            }
            sets.add(new int[] {bits, 0});
            shrunk++;
            return 0;
        }

        int grow(int p) {
            if (partner[p] >= 0) {
                return 1;
            }
            int[] r = path(p);
            return r == null ? 2 : turn(r);
        }
    }

    static final class Fault extends Exception {
        private static final long serialVersionUID = 1;
        final int kind;
        final int place;

        Fault(int kind, int place) {
            this.kind = kind;
            this.place = place;
        }
    }

    record Token(String text, int place) {
        boolean isNumber() {
            return text.matches("[0-9]{1,3}");
        }

        boolean isWord() {
            return text.matches("[a-z]{1,7}");
        }

        boolean isToken() {
            return isNumber() || isWord() || text.matches("[;<=>()]") || text.isEmpty();
        }
    }

    State s = new State();
    private final List<State> history = new ArrayList<>();
    private final StringBuilder tape = new StringBuilder();
    private final State[] images = new State[2];
    private final IntPredicate[] imageSaid = new IntPredicate[2];
    private int fault = 0;
    private int[] path = null;
    private int[] flower = null;
    private int proofKind = 0;
    private int proofAt = -1;
    private int proofBy = 0;
    private int[] best = new int[0];
    private int asked = -1;
    private String tag = "";
    private int[] told = {-1, -1, -1, -1};
    private IntPredicate said = null;
    private List<Token> tokens = new ArrayList<>();
    private int at = 0;
    private int ones = 0;
    private List<int[]> pairings = null;
    private String pairingsOf = "";

    Plain() {
        Arrays.fill(s.partner, -1);
    }

    // ---- the tape and texts

    int feed(int a, int b, int c, int d, int e) {
        if (tape.length() + 20 > 940) {
            return -1;
        }
        for (int n : new int[] {a, b, c, d, e}) {
            tape.append((char) (n >>> 24)).append((char) (n >>> 16 & 255)).append((char) (n >>> 8 & 255))
                    .append((char) (n & 255));
        }
        return tape.length();
    }

    boolean end(int n) {
        if (n < 0 || n > tape.length()) {
            return false;
        }
        tape.setLength(n);
        return true;
    }

    private void cutTokens(int most) {
        String text = tape.toString();
        tape.setLength(0);
        tokens = new ArrayList<>();
        at = 0;
        Matcher m = Pattern.compile("[a-z0-9]+|[^ \n]", Pattern.DOTALL).matcher(text);
        while (m.find() && m.start() < most) {
            tokens.add(new Token(m.group(), m.start()));
        }
        // more bytes than may be: no end comes, but a thing that can never come
        tokens.add(new Token(text.length() > most ? "!" : "", Math.min(most, text.length())));
    }

    private Token see() {
        return tokens.get(Math.min(at, tokens.size() - 1));
    }

    private boolean sees(String text) {
        return see().text.equals(text);
    }

    private void must(boolean so, int kind) throws Fault {
        if (!so) {
            throw new Fault(kind, see().place);
        }
    }

    private void eat(String text) throws Fault {
        must(sees(text), 1);
        at++;
    }

    private int eatNumber(int least, int most) throws Fault {
        must(see().isNumber(), 1);
        int n = Integer.parseInt(see().text);
        must(n >= least && n <= most, 2);
        at++;
        return n;
    }

    private int seePoint(State of) throws Fault {
        must(see().isWord() && !TOLD.contains(see().text), 1);
        must(of.names.contains(see().text), 3);
        return of.names.indexOf(see().text);
    }

    private int eatPoint(State of) throws Fault {
        int p = seePoint(of);
        at++;
        return p;
    }

    int network() {
        State n = new State();
        Arrays.fill(n.partner, -1);
        cutTokens(900);
        int lines = 0;
        try {
            List<Integer> priced = new ArrayList<>();
            while (!sees("")) {
                line(n, priced);
                eat(";");
                lines++;
            }
        } catch (Fault f) {
            fault = f.kind;
            return -1 - f.place;
        }
        fault = 0;
        s = n;
        said = null;
        history.clear();
        return lines;
    }

    private void line(State n, List<Integer> priced) throws Fault {
        String word = see().text;
        must(List.of("point", "link", "pair", "price", "odd").contains(word), 1);
        must(!(word.equals("point") && n.size() == 10), 4);
        must(!(word.equals("link") && n.links.size() == 30), 4);
        must(!(word.equals("odd") && n.sets.size() == 6), 4);
        at++;
        if (word.equals("point")) {
            must(see().isWord() && !TOLD.contains(see().text), 1);
            must(!n.names.contains(see().text), 3);
            n.names.add(see().text);
            at++;
        } else if (word.equals("price")) {
            int p = seePoint(n);
            must(!priced.contains(p), 3);
            priced.add(p);
            at++;
            n.price[p] = eatNumber(0, 400);
        } else if (word.equals("odd")) {
            int crown = eatNumber(0, 400);
            int bits = 0;
            int size = 0;
            while (!(sees(";") && List.of(3, 5, 7, 9).contains(size))) {
                must(size < 9, 1);
                int p = seePoint(n);
                must((bits & 1 << p) == 0, 3);
                bits |= 1 << p;
                size++;
                at++;
            }
            for (int[] o : n.sets) {
                must(o[0] != bits, 3);
            }
            n.sets.add(new int[] {bits, crown});
        } else {
            int p = eatPoint(n);
            int q = seePoint(n);
            must(p != q, 3);
            if (word.equals("link")) {
                must(!n.linked(p, q), 3);
                at++;
                n.links.add(new int[] {p, q, eatNumber(1, 99)});
            } else {
                must(n.pair(p, q) == 0, 3);
                at++;
            }
        }
    }

    int fault() {
        return fault;
    }

    int book(int lives) {
        if (lives != 0 && lives != 1) {
            return -1000;
        }
        cutTokens(400);
        List<Object[]> lines = new ArrayList<>();
        try {
            while (!sees("")) {
                String word = see().text;
                must(List.of("pair", "part", "weigh", "price", "crown", "open", "grow").contains(word), 1);
                must(lines.size() < 40, 4);
                at++;
                int[] a = new int[3];
                if (word.equals("crown") || word.equals("open")) {
                    a[0] = eatNumber(0, 5);
                } else {
                    a[0] = eatPoint(s);
                }
                if (word.equals("pair") || word.equals("weigh")) {
                    a[1] = seePoint(s);
                    must(a[0] != a[1], 3);
                    at++;
                }
                if (word.equals("weigh")) {
                    a[2] = eatNumber(1, 99);
                }
                if (word.equals("price") || word.equals("crown")) {
                    a[2] = eatNumber(0, 400);
                }
                eat(";");
                lines.add(new Object[] {word, a});
            }
        } catch (Fault f) {
            fault = f.kind;
            return -2 - f.place;
        }
        fault = 0;
        State t = s.copy();
        int right = 0;
        int why = 0;
        for (Object[] line : lines) {
            why = live(t, (String) line[0], (int[]) line[1]);
            if (why != 0) {
                break;
            }
            right++;
        }
        told = new int[] {why, right, t.total(), t.bound()};
        if (lives == 1 && right > 0) {
            done(s, 0);
            s = t;
        }
        return why == 0 ? -1 : right;
    }

    private static int live(State t, String word, int[] a) {
        int why;
        switch (word) {
            case "pair":
                return t.pair(a[0], a[1]);
            case "part":
                why = t.part(a[0]);
                return why == 0 ? 0 : 10 + why;
            case "weigh":
                why = t.weigh(a[0], a[1], a[2]);
                return why == 0 ? 0 : 20 + why;
            case "price":
                why = t.price(a[0], a[2]);
                return why == 0 ? 0 : 30 + why;
            case "crown":
                if (a[0] >= t.sets.size()) {
                    return 49;
                }
                why = t.crown(a[0], a[2]);
                return why == 0 ? 0 : 40 + why;
            case "open":
                if (a[0] >= t.sets.size()) {
                    return 59;
                }
                why = t.open(a[0]);
                return why == 0 ? 0 : 50 + why;
            default:
                why = t.grow(a[0]);
                return why == 0 ? 0 : 60 + why;
        }
    }

    int told(int what) {
        return what >= 0 && what < 4 ? told[what] : -1;
    }

    int sentence() {
        cutTokens(200);
        ones = 0;
        try {
            IntPredicate c = cond(1);
            must(sees(""), 1);
            said = c;
        } catch (Fault f) {
            fault = f.kind;
            return -1 - f.place;
        }
        fault = 0;
        return ones;
    }

    private IntPredicate cond(int depth) throws Fault {
        IntPredicate left = all(depth);
        while (sees("or")) {
            at++;
            left = left.or(all(depth));
        }
        return left;
    }

    private IntPredicate all(int depth) throws Fault {
        IntPredicate left = one(depth);
        while (sees("and")) {
            at++;
            left = left.and(one(depth));
        }
        return left;
    }

    private IntPredicate one(int depth) throws Fault {
        String word = see().text;
        must(List.of("not", "(", "lone", "tight", "with", "linked", "in", "priced", "links", "weight", "number")
                .contains(word), 1);
        must(ones < 20 && depth <= 8, 4);
        ones++;
        at++;
        switch (word) {
            case "not":
                return one(depth + 1).negate();
            case "(":
                IntPredicate inner = cond(depth + 1);
                eat(")");
                return inner;
            case "lone":
                return p -> s.partner[p] < 0;
            case "tight":
                return p -> {
                    for (int l = 0; l < s.links.size(); l++) {
                        if (s.slack(l) == 0 && (s.links.get(l)[0] == p || s.links.get(l)[1] == p)) {
                            return true;
                        }
                    }
                    return false;
                };
            case "with":
                int with = eatPoint(s);
                return p -> s.partner[p] == with;
            case "linked":
                int to = eatPoint(s);
                return p -> s.linked(p, to);
            case "in":
                int k = eatNumber(0, 5);
                return p -> k < s.sets.size() && (s.sets.get(k)[0] & 1 << p) != 0;
            default:
                must(List.of("<", "=", ">").contains(see().text), 1);
                String sign = see().text;
                at++;
                int n = eatNumber(0, 999);
                return p -> {
                    int d = Integer.compare(measure(word, p), n);
                    return sign.equals("<") ? d < 0 : sign.equals("=") ? d == 0 : d > 0;
                };
        }
    }

    private int measure(String word, int p) {
        switch (word) {
            case "priced":
                return s.price[p];
            case "links":
                int n = 0;
                for (int[] l : s.links) {
                    n += l[0] == p || l[1] == p ? 1 : 0;
                }
                return n;
            case "weight":
                return s.partner[p] < 0 ? 0 : s.links.get(s.linkOf(p, s.partner[p]))[2];
            default:
                return p;
        }
    }

    int said(int k) {
        if (said == null) {
            return -1;
        }
        List<Integer> of = new ArrayList<>();
        for (int p = 0; p < s.size(); p++) {
            if (said.test(p)) {
                of.add(p);
            }
        }
        return k == -1 ? of.size() : k >= 0 && k < of.size() ? of.get(k) : -1;
    }

    // ---- what is so

    int point(int p, int what) {
        if (!s.has(p) || what < 0 || what > 4) {
            return TestKit.THROWS;
        }
        int bits = 0;
        switch (what) {
            case 0:
                return s.partner[p];
            case 1:
                return s.price[p];
            case 4:
                for (int k = 0; k < s.sets.size(); k++) {
                    bits |= (s.sets.get(k)[0] >> p & 1) << k;
                }
                return bits;
            default:
                for (int q = 0; q < s.size(); q++) {
                    if (s.linked(p, q) && (what == 2 || s.slack(s.linkOf(p, q)) == 0)) {
                        bits |= 1 << q;
                    }
                }
                return bits;
        }
    }

    int link(int l, int what) {
        if (l < 0 || l >= s.links.size() || what < 0 || what > 4) {
            return -1;
        }
        if (what < 3) {
            return s.links.get(l)[what];
        }
        if (what == 3) {
            return s.inPair(l) ? 1 : 0;
        }
        int in = 0;
        List<int[]> all = bestOnes();
        for (int[] m : all) {
            in += m[s.links.get(l)[0]] == s.links.get(l)[1] ? 1 : 0;
        }
        return in == 0 ? 0 : in == all.size() ? 2 : 1;
    }

    int slack(int l) {
        if (l < 0 || l >= s.links.size()) {
            return TestKit.THROWS;
        }
        return s.slack(l);
    }

    int odd(int k, int what) {
        if (k < 0 || k >= s.sets.size() || what < 0 || what > 2) {
            return -1;
        }
        return what == 2 ? s.within(k) : s.sets.get(k)[what];
    }

    int now(int what) {
        int bits = 0;
        switch (what) {
            case 0:
                return s.total();
            case 1:
                return s.pairs();
            case 2:
                for (int p = 0; p < s.size(); p++) {
                    bits |= s.partner[p] < 0 ? 1 << p : 0;
                }
                return bits;
            case 3:
                for (int l = 0; l < s.links.size(); l++) {
                    bits |= s.slack(l) == 0 ? 1 << l : 0;
                }
                return bits;
            case 4:
                return s.bound();
            case 5:
                return s.turned;
            case 6:
                return s.shrunk;
            default:
                return -1;
        }
    }

    // ---- deeds

    private int done(State before, int why) {
        if (why == 0) {
            history.add(before);
            if (history.size() > 8) {
                history.remove(0);
            }
        }
        return why;
    }

    int pair(int p, int q) {
        State before = s.copy();
        return !s.has(p) || !s.has(q) || p == q ? -1 : done(before, s.pair(p, q));
    }

    int part(int p) {
        State before = s.copy();
        return !s.has(p) ? -1 : done(before, s.part(p));
    }

    int weigh(int p, int q, int w) {
        State before = s.copy();
        return !s.has(p) || !s.has(q) || p == q || w < 1 || w > 99 ? -1 : done(before, s.weigh(p, q, w));
    }

    int price(int p, int n) {
        State before = s.copy();
        return !s.has(p) || n < 0 || n > 400 ? -1 : done(before, s.price(p, n));
    }

    int crown(int k, int n) {
        State before = s.copy();
        return k < 0 || k >= s.sets.size() || n < 0 || n > 400 ? -1 : done(before, s.crown(k, n));
    }

    int open(int k) {
        State before = s.copy();
        return k < 0 || k >= s.sets.size() ? -1 : done(before, s.open(k));
    }

    int grow(int p) {
        int[] r = s.has(p) ? s.path(p) : null;
        if (r == null) {
            return -1;
        }
        path = r;
        return r.length - 1;
    }

    int growAt(int k) {
        return path != null && k >= 0 && k < path.length ? path[k] : -1;
    }

    int turn() {
        State before = s.copy();
        return done(before, s.turn(path));
    }

    int flower(int p) {
        int[] r = s.has(p) ? s.flower(p) : null;
        if (r == null) {
            return -1;
        }
        flower = r;
        return r.length;
    }

    int flowerAt(int k) {
        return flower != null && k >= 0 && k < flower.length ? flower[k] : -1;
    }

    int shrink() {
        State before = s.copy();
        return done(before, s.shrink(flower));
    }

    int undo() {
        if (history.isEmpty()) {
            return -1;
        }
        s = history.remove(history.size() - 1);
        return history.size();
    }

    // ---- proofs

    int proof() {
        proofKind = 0;
        proofAt = -1;
        for (int l = s.links.size() - 1; l >= 0; l--) {
            if (s.slack(l) < 0) {
                flaw(1, l, s.slack(l));
            }
        }
        for (int l = s.links.size() - 1; l >= 0 && proofKind != 1; l--) {
            if (s.inPair(l) && s.slack(l) != 0) {
                flaw(2, l, s.slack(l));
            }
        }
        if (proofKind == 0) {
            for (int p = s.size() - 1; p >= 0; p--) {
                if (s.partner[p] < 0 && s.price[p] > 0) {
                    flaw(3, p, s.price[p]);
                }
            }
        }
        if (proofKind == 0) {
            for (int k = s.sets.size() - 1; k >= 0; k--) {
                if (s.sets.get(k)[1] > 0 && 2 * s.within(k) < Integer.bitCount(s.sets.get(k)[0]) - 1) {
                    flaw(4, k, s.sets.get(k)[1]);
                }
            }
        }
        return proofKind;
    }

    private void flaw(int kind, int at, int by) {
        proofKind = kind;
        proofAt = at;
        proofBy = by;
    }

    int proofAt() {
        return proofAt;
    }

    int proofBy() {
        if (proofKind == 0) {
            return TestKit.THROWS;
        }
        return proofBy;
    }

    int room(int p) {
        if (!s.has(p)) {
            return -1;
        }
        int most = 0;
        State t = s.copy();
        for (int down = 0; down <= s.price[p]; down++) {
            t.price[p] = s.price[p] - down;
            boolean fine = true;
            for (int l = 0; l < t.links.size(); l++) {
                int[] k = t.links.get(l);
                fine &= k[0] != p && k[1] != p || t.slack(l) >= 0;
            }
            most = fine ? down : most;
        }
        return most;
    }

    // ---- all pairings

    private List<int[]> pairings() {
        StringBuilder key = new StringBuilder().append(s.size());
        for (int[] l : s.links) {
            key.append(Arrays.toString(l));
        }
        if (pairings == null || !pairingsOf.equals(key.toString())) {
            pairings = new ArrayList<>();
            pairingsOf = key.toString();
            int[] m = new int[s.size()];
            Arrays.fill(m, -1);
            choose(0, m);
        }
        return pairings;
    }

    private void choose(int l, int[] m) {
        if (l == s.links.size()) {
            pairings.add(m.clone());
            return;
        }
        choose(l + 1, m);
        int[] k = s.links.get(l);
        if (m[k[0]] < 0 && m[k[1]] < 0) {
            m[k[0]] = k[1];
            m[k[1]] = k[0];
            choose(l + 1, m);
            m[k[0]] = -1;
            m[k[1]] = -1;
        }
    }

    private int totalOf(int[] m) {
        int sum = 0;
        for (int[] k : s.links) {
            sum += m[k[0]] == k[1] ? k[2] : 0;
        }
        return sum;
    }

    private static int pairsOf(int[] m) {
        int n = 0;
        for (int q : m) {
            n += q >= 0 ? 1 : 0;
        }
        return n / 2;
    }

    private int greatest() {
        int top = 0;
        for (int[] m : pairings()) {
            top = Math.max(top, totalOf(m));
        }
        return top;
    }

    private List<int[]> bestOnes() {
        int top = greatest();
        List<int[]> all = new ArrayList<>();
        for (int[] m : pairings()) {
            if (totalOf(m) == top) {
                all.add(m);
            }
        }
        return all;
    }

    private static int[] ranked(int[] m) {
        int[] r = m.clone();
        for (int p = 0; p < r.length; p++) {
            r[p] = r[p] < 0 ? 99 : r[p];
        }
        return r;
    }

    int best() {
        int[] first = null;
        for (int[] m : bestOnes()) {
            if (first == null || Arrays.compare(ranked(m), ranked(first)) < 0) {
                first = m;
            }
        }
        best = first;
        return greatest();
    }

    int bestOf(int p) {
        return p >= 0 && p < best.length ? best[p] : -1;
    }

    int next() {
        int top = greatest();
        int second = -1;
        for (int[] m : pairings()) {
            int t = totalOf(m);
            second = t < top ? Math.max(second, t) : second;
        }
        return second;
    }

    int heavy(int k) {
        int top = -1;
        for (int[] m : pairings()) {
            top = pairsOf(m) == k ? Math.max(top, totalOf(m)) : top;
        }
        return top;
    }

    int ways(int k) {
        int n = 0;
        for (int[] m : pairings()) {
            n += pairsOf(m) == k ? 1 : 0;
        }
        return n;
    }

    /** A stroke leads to a pairing that differs in one connected row or ring of LINKS. */
    int gain() {
        int most = 0;
        for (int[] m : pairings()) {
            most = oneStroke(m) ? Math.max(most, totalOf(m) - s.total()) : most;
        }
        return most;
    }

    private boolean oneStroke(int[] m) {
        int changed = 0;
        for (int p = 0; p < m.length; p++) {
            changed |= m[p] != s.partner[p] ? 1 << p : 0;
        }
        int reached = changed & -changed;
        for (int round = 0; round < 10; round++) {
            for (int p = 0; p < m.length; p++) {
                if ((reached & changed & 1 << p) != 0) {
                    reached |= m[p] >= 0 ? 1 << m[p] : 0;
                    reached |= s.partner[p] >= 0 ? 1 << s.partner[p] : 0;
                }
            }
        }
        return reached == changed;
    }

    int who() {
        int[] b = tape.chars().toArray();
        tape.setLength(0);
        if (b.length < 2 || b.length > 12 || b.length % 2 == 1) {
            return -1;
        }
        for (int i = 0; i < b.length; i += 2) {
            if (!s.has(b[i]) || !s.has(b[i + 1]) && b[i + 1] != 255) {
                return -1;
            }
        }
        List<int[]> fit = new ArrayList<>();
        for (int[] m : bestOnes()) {
            boolean fits = true;
            for (int i = 0; i < b.length; i += 2) {
                fits &= m[b[i]] == (b[i + 1] == 255 ? -1 : b[i + 1]);
            }
            if (fits) {
                fit.add(m);
            }
        }
        if (!fit.isEmpty()) {
            int least = Integer.MAX_VALUE;
            for (int p = 0; p < s.size(); p++) {
                int[] n = new int[11];
                for (int[] m : fit) {
                    n[m[p] + 1]++;
                }
                int most = Arrays.stream(n).max().getAsInt();
                if (most < least) {
                    least = most;
                    asked = p;
                }
            }
        }
        return fit.size();
    }

    int ask() {
        return asked;
    }

    int mean(int what) {
        if (s.pairs() == 0 || what < 0 || what > 1) {
            return TestKit.THROWS;
        }
        int above = s.total();
        int below = s.pairs();
        for (int d = below; d > 1; d--) {
            if (above % d == 0 && below % d == 0) {
                above /= d;
                below /= d;
            }
        }
        return what == 0 ? above : below;
    }

    int tag(int p) {
        if (!s.has(p)) {
            return -1;
        }
        tag = s.names.get(p) + (s.partner[p] < 0 ? " lone" : " with " + s.names.get(s.partner[p])) + " at " + s.price[p];
        return tag.length();
    }

    int byteAt(int i) {
        return i >= 0 && i < tag.length() ? tag.charAt(i) : -1;
    }

    // ---- draws

    private int x;

    private int draw(int n) {
        x = x * 1103515245 + 12345;
        return (x >>> 8) % n;
    }

    private int deeds(State t, int n, int seed) {
        x = seed;
        int done = 0;
        for (int i = 0; i < n && t.size() > 0; i++) {
            int kind = draw(7);
            int why = 1;
            if (kind == 0) {
                int p = draw(t.size());
                int q = draw(t.size());
                why = p == q ? 1 : t.pair(p, q);
            } else if (kind == 1) {
                why = t.part(draw(t.size()));
            } else if (kind == 2) {
                if (!t.links.isEmpty()) {
                    int[] l = t.links.get(draw(t.links.size()));
                    why = t.weigh(l[0], l[1], draw(30) + 1);
                }
            } else if (kind == 3) {
                int p = draw(t.size());
                why = t.price(p, draw(60));
            } else if (kind < 6) {
                why = t.grow(draw(t.size()));
            } else if (!t.sets.isEmpty()) {
                int k = draw(t.sets.size());
                why = t.crown(k, draw(20));
            }
            done += why == 0 ? 1 : 0;
        }
        return done;
    }

    int drawn(int n, int seed) {
        if (n < 1 || n > 60) {
            return -1;
        }
        State before = s.copy();
        int done = deeds(s, n, seed);
        if (done > 0) {
            done(before, 0);
        }
        return done;
    }

    int odds(int p, int n, int seed) {
        if (!s.has(p) || n < 1 || n > 20) {
            return -1;
        }
        int paired = 0;
        for (int i = 0; i < n; i++) {
            State t = s.copy();
            deeds(t, 12, seed + i);
            paired += t.partner[p] >= 0 ? 1 : 0;
        }
        return paired;
    }

    // ---- images

    boolean image(int k) {
        if (k < 0 || k > 1) {
            return false;
        }
        images[k] = s.copy();
        imageSaid[k] = said;
        return true;
    }

    boolean restore(int k) {
        if (k < 0 || k > 1 || images[k] == null) {
            return false;
        }
        s = images[k].copy();
        said = imageSaid[k];
        history.clear();
        return true;
    }

    int count(int what) {
        switch (what) {
            case 0:
                return s.size();
            case 1:
                return s.links.size();
            case 2:
                return s.sets.size();
            case 3:
                return tape.length();
            default:
                return -1;
        }
    }
}
