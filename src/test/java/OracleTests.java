import java.util.ArrayList;
import java.util.List;
import java.util.Random;

/** Runs of up to 512 random calls on the class and on the plain second one, answer by answer. */
public final class OracleTests {
    private static final String[] NAMES = {"a", "b", "c", "dee", "e", "ff", "gamma", "h", "indigoo", "jay"};
    private final Random random;
    private final HeavyPairs x = new HeavyPairs();
    private final Plain plain = new Plain();
    private final StringBuilder log = new StringBuilder();
    private boolean broken = false;
    private int calls = 0;

    private OracleTests(long seed) {
        random = new Random(seed);
        log.append("seed ").append(seed);
    }

    public static void main(String[] args) {
        int runs = args.length > 0 ? Integer.parseInt(args[0]) : 300;
        long first = args.length > 1 ? Long.parseLong(args[1]) : 1;
        for (int run = 0; run < runs; run++) {
            OracleTests test = new OracleTests(first + run);
            // a step makes some 100 calls at most, an object is used for 512
            while (test.calls < 410 && !test.broken) {
                test.step();
            }
        }
        TestKit.finish("OracleTests");
    }

    private void check(String call, long got, long want) {
        calls++;
        TestKit.due("", 0, 0);
        if (got != want) {
            broken = true;
            log.append('\n').append(call);
            TestKit.due(log.length() > 3000 ? log.substring(log.length() - 3000) : log.toString(), got, want);
        }
        log.append('\n').append(call).append(" = ").append(got);
    }

    private int below(int n) {
        return random.nextInt(n);
    }

    /** Mostly near 0 to n - 1, at times far outside. */
    private int near(int n) {
        int kind = below(40);
        if (kind == 0) {
            return new int[] {Integer.MIN_VALUE, Integer.MAX_VALUE, -1000, 1000000, 32, 64, 255}[below(7)];
        }
        return kind < 4 ? below(n + 3) - 2 : below(Math.max(1, n));
    }

    private void tape(String text) {
        check("end(0)", x.end(0) ? 1 : 0, plain.end(0) ? 1 : 0);
        for (int i = 0; i < text.length(); i += 20) {
            int a = TestKit.four(text, i);
            int b = TestKit.four(text, i + 4);
            int c = TestKit.four(text, i + 8);
            int d = TestKit.four(text, i + 12);
            int e = TestKit.four(text, i + 16);
            check("feed", x.feed(a, b, c, d, e), plain.feed(a, b, c, d, e));
        }
        check("end", x.end(text.length()) ? 1 : 0, plain.end(text.length()) ? 1 : 0);
        log.append(" [").append(text).append(']');
    }

    private String name() {
        int n = plain.s.size();
        return n == 0 || below(60) == 0 ? NAMES[below(NAMES.length)] : plain.s.names.get(below(n));
    }

    private String networkText() {
        switch (below(6)) {
            case 0:
                return chainText();
            case 1:
                return provenText();
            default:
                return mixedText();
        }
    }

    private static StringBuilder pointsText(int points) {
        StringBuilder text = new StringBuilder();
        for (int p = 0; p < points; p++) {
            text.append("point ").append(NAMES[p]).append(";");
        }
        return text;
    }

    private List<Integer> shuffled(int points) {
        List<Integer> all = new ArrayList<>();
        for (int p = 0; p < points; p++) {
            all.add(p);
        }
        java.util.Collections.shuffle(all, random);
        return all;
    }

    private static void appendPair(StringBuilder text, String word, int p, int q) {
        text.append(word).append(' ').append(NAMES[p]).append(' ').append(NAMES[q]);
    }

    /** A row of POINTS with every other LINK of a pair, so that PATHS and FLOWERS are long. */
    private String chainText() {
        int points = 5 + below(6);
        StringBuilder text = pointsText(points);
        List<Integer> row = shuffled(points);
        boolean[][] linked = new boolean[points][points];
        int many = below(4) == 0 ? points + 3 : points;
        for (int i = 0; i < many; i++) {
            int p = i < points ? row.get(i) : below(points);
            int q = i < points ? row.get((i + 1) % points) : below(points);
            if (p != q && !linked[p][q]) {
                linked[p][q] = true;
                linked[q][p] = true;
                appendPair(text, "link", p, q);
                text.append(' ').append(1 + below(9)).append(';');
                if (i % 2 == 1 && i + 1 < points) {
                    appendPair(text, "pair", q, p);
                    text.append(';');
                }
            }
        }
        return text.toString();
    }

    /** Prices that prove the pairing heaviest, or nearly so. */
    private String provenText() {
        int points = 4 + below(7);
        StringBuilder text = pointsText(points);
        List<Integer> row = shuffled(points);
        int pairs = below(points / 2 + 1);
        int[] price = new int[points];
        int sold = 2 * below(2);
        for (int i = 0; i < points; i++) {
            price[row.get(i)] = i / 2 < pairs ? 2 * (1 + below(15)) : sold * below(8);
        }
        int links = 0;
        for (int i = 0; i < points; i++) {
            for (int j = i + 1; j < points && links < 30; j++) {
                int p = row.get(i);
                int q = row.get(j);
                boolean pair = i / 2 == j / 2 && i / 2 < pairs;
                int most = (price[p] + price[q]) / 2;
                if (pair || most >= 1 && below(3) > 0) {
                    links++;
                    appendPair(text, "link", p, q);
                    text.append(' ').append(pair ? most : Math.max(1, most - below(4))).append(';');
                    if (pair) {
                        appendPair(text, "pair", p, q);
                        text.append(';');
                    }
                }
            }
        }
        for (int p = 0; p < points; p++) {
            text.append("price ").append(NAMES[p]).append(' ').append(price[p]).append(';');
        }
        if (below(3) > 0) {
            appendSets(text, points);
        }
        return text.toString();
    }

    private String mixedText() {
        int points = below(8) == 0 ? below(4) : 4 + below(7);
        StringBuilder text = pointsText(points);
        List<int[]> links = new ArrayList<>();
        for (int p = 0; p < points; p++) {
            for (int q = 0; q < p; q++) {
                links.add(below(2) == 0 ? new int[] {p, q} : new int[] {q, p});
            }
        }
        java.util.Collections.shuffle(links, random);
        int most = Math.min(links.size(), 30);
        int many = most == 0 ? 0 : below(3) == 0 ? most : below(most + 1);
        int heaviest = new int[] {1, 2, 5, 20, 99}[below(5)];
        boolean[] paired = new boolean[points];
        for (int l = 0; l < many; l++) {
            int[] k = links.get(l);
            appendPair(text, "link", k[0], k[1]);
            text.append(' ').append(1 + below(heaviest)).append(';');
            if (!paired[k[0]] && !paired[k[1]] && below(3) == 0) {
                paired[k[0]] = true;
                paired[k[1]] = true;
                appendPair(text, "pair", k[1], k[0]);
                text.append(';');
            }
        }
        for (int p = 0; p < points; p++) {
            if (below(2) == 0) {
                text.append("price ").append(NAMES[p]).append(' ').append(below(2 * heaviest + 2)).append(';');
            }
        }
        appendSets(text, points);
        return text.toString();
    }

    private void appendSets(StringBuilder text, int points) {
        int sets = points < 3 ? 0 : below(4);
        for (int k = 0; k < sets; k++) {
            List<Integer> all = shuffled(points);
            int size = 3 + 2 * below((points - 1) / 2);
            text.append("odd ").append(below(2) * below(9));
            for (int i = 0; i < size && i < points; i++) {
                text.append(' ').append(NAMES[all.get(i)]);
            }
            text.append(';');
        }
    }

    private String bookText() {
        StringBuilder text = new StringBuilder();
        int lines = below(12) == 0 ? 38 + below(5) : below(8);
        for (int i = 0; i < lines; i++) {
            switch (below(9)) {
                case 0:
                case 1:
                    text.append("pair ").append(name()).append(' ').append(name());
                    break;
                case 2:
                    text.append("part ").append(name());
                    break;
                case 3:
                    text.append("weigh ").append(name()).append(' ').append(name()).append(' ').append(near(99) & 1023);
                    break;
                case 4:
                    text.append("price ").append(name()).append(' ').append(near(400) & 511);
                    break;
                case 5:
                    text.append("crown ").append(near(4) & 7).append(' ').append(near(400) & 511);
                    break;
                case 6:
                    text.append("open ").append(near(4) & 7);
                    break;
                default:
                    text.append("grow ").append(name());
            }
            text.append(';');
        }
        return text.toString();
    }

    private String cond(int depth) {
        StringBuilder text = new StringBuilder(one(depth));
        for (int i = 0; i < 6 && below(3) > 0; i++) {
            text.append(below(2) == 0 ? " or " : " and ").append(one(depth));
        }
        return text.toString();
    }

    private String one(int depth) {
        String[] measures = {"priced", "links", "weight", "number"};
        String[] signs = {" < ", "=", ">"};
        switch (below(depth > 9 ? 6 : 9)) {
            case 0:
                return "lone";
            case 1:
                return "tight";
            case 2:
                return "with " + name();
            case 3:
                return "linked " + name();
            case 4:
                return "in " + (below(10) == 0 ? below(9) : below(3));
            case 5:
                return measures[below(4)] + signs[below(3)] + below(below(3) == 0 ? 40 : 6);
            case 6:
                return "(" + cond(depth + 1) + ")";
            default:
                return "not " + one(depth + 1);
        }
    }

    /** Leaves most texts as they are; of others a byte, a word or a piece is changed. */
    private String spoilt(String text, int most) {
        if (below(3) > 0 && text.length() <= 940) {
            return text;
        }
        StringBuilder s = new StringBuilder(text);
        int at = below(s.length() + 1);
        String[] pieces = {" ", "\n", ";", "a", "b", "7", "0", "100", "401", "lone", "odd 1", "point k", "link", "link a b 4;",
            "(", ")", "<", "\u00ff", "\u0000", "A", "zzzzzzzz", "pair a b;", "price a 3;", "x1", "and", "not", "odd 2 a b c;"};
        switch (below(6)) {
            case 0:
                s.setLength(at);
                break;
            case 1:
                s.delete(at, Math.min(s.length(), at + 1 + below(3)));
                break;
            case 2:
                s.replace(at, Math.min(s.length(), at + 1), pieces[below(pieces.length)]);
                break;
            case 3:
                // up to the most bytes and past them
                int wanted = most - 3 + below(8);
                while (s.length() < wanted) {
                    s.insert(below(4) == 0 ? at : s.length(), ' ');
                }
                break;
            default:
                s.insert(at, pieces[below(pieces.length)]);
        }
        if (s.length() > 940) {
            s.setLength(940);
        }
        return s.toString();
    }

    private void step() {
        if (calls == 0 || below(60) == 0) {
            tape(calls == 0 ? networkText() : spoilt(networkText(), 900));
            check("network()", x.network(), plain.network());
            check("fault()", x.fault(), plain.fault());
            lookAround();
            return;
        }
        switch (below(6)) {
            case 0:
                texts();
                break;
            case 1:
            case 2:
                deeds();
                break;
            case 3:
                told();
                break;
            default:
                asked();
        }
    }

    /** What a NETWORK shows as long as no deed has changed it. */
    private void lookAround() {
        check("proof()", x.proof(), plain.proof());
        check("proofAt()", x.proofAt(), plain.proofAt());
        check("proofBy()", TestKit.proofBy(x), plain.proofBy());
        check("gain()", x.gain(), plain.gain());
        check("next()", x.next(), plain.next());
        for (int p = 0; p < plain.s.size(); p++) {
            check("grow(" + p + ")", x.grow(p), plain.grow(p));
            check("flower(" + p + ")", x.flower(p), plain.flower(p));
            check("growAt(3)", x.growAt(3), plain.growAt(3));
            check("flowerAt(3)", x.flowerAt(3), plain.flowerAt(3));
        }
    }

    private void texts() {
        switch (below(4)) {
            case 0:
                tape(spoilt(bookText(), 400));
                int lives = below(12) == 0 ? below(5) - 2 : below(2);
                check("book(" + lives + ")", x.book(lives), plain.book(lives));
                break;
            case 1:
                tape(spoilt(cond(1), 200));
                check("sentence()", x.sentence(), plain.sentence());
                break;
            case 2:
                tape(askingBytes());
                check("who()", x.who(), plain.who());
                check("ask()", x.ask(), plain.ask());
                break;
            default:
                int n = random.nextInt();
                check("feed", x.feed(n, n, n, n, n), plain.feed(n, n, n, n, n));
                int keep = near(20);
                check("end(" + keep + ")", x.end(keep) ? 1 : 0, plain.end(keep) ? 1 : 0);
        }
        check("fault()", x.fault(), plain.fault());
    }

    /** At times what a BEST pairing has. */
    private String askingBytes() {
        StringBuilder bytes = new StringBuilder();
        int pairs = below(10) == 0 ? below(8) : 1 + below(2);
        boolean likely = below(3) > 0;
        if (likely) {
            check("best()", x.best(), plain.best());
        }
        for (int i = 0; i < pairs; i++) {
            int p = near(plain.s.size()) & 255;
            bytes.append((char) p);
            if (likely) {
                bytes.append((char) (plain.bestOf(p) & 255));
            } else {
                bytes.append((char) (below(4) == 0 ? 255 : near(plain.s.size()) & 255));
            }
        }
        if (below(20) == 0) {
            bytes.append((char) 1);
        }
        return bytes.toString();
    }

    private void deeds() {
        int p = near(plain.s.size());
        int q = near(plain.s.size());
        int k = near(plain.s.sets.size());
        int n = below(5) == 0 ? near(400) : below(40);
        switch (below(14)) {
            case 0:
            case 1:
                check("pair(" + p + "," + q + ")", x.pair(p, q), plain.pair(p, q));
                break;
            case 2:
                check("part(" + p + ")", x.part(p), plain.part(p));
                break;
            case 3:
                int w = near(100);
                check("weigh(" + p + "," + q + "," + w + ")", x.weigh(p, q, w), plain.weigh(p, q, w));
                break;
            case 4:
                check("price(" + p + "," + n + ")", x.price(p, n), plain.price(p, n));
                break;
            case 5:
                check("crown(" + k + "," + n + ")", x.crown(k, n), plain.crown(k, n));
                break;
            case 6:
                check("open(" + k + ")", x.open(k), plain.open(k));
                break;
            case 7:
            case 8:
                check("grow(" + p + ")", x.grow(p), plain.grow(p));
                if (below(2) == 0) {
                    check("turn()", x.turn(), plain.turn());
                }
                break;
            case 9:
            case 10:
                check("flower(" + p + ")", x.flower(p), plain.flower(p));
                if (below(2) == 0) {
                    check("shrink()", x.shrink(), plain.shrink());
                }
                break;
            case 11:
                check("undo()", x.undo(), plain.undo());
                break;
            case 12:
                int many = below(3) == 0 ? near(61) : below(5);
                int seed = random.nextInt();
                check("drawn(" + many + "," + seed + ")", x.drawn(many, seed), plain.drawn(many, seed));
                break;
            default:
                int place = near(2);
                if (below(2) == 0) {
                    check("image(" + place + ")", x.image(place) ? 1 : 0, plain.image(place) ? 1 : 0);
                } else {
                    check("restore(" + place + ")", x.restore(place) ? 1 : 0, plain.restore(place) ? 1 : 0);
                }
        }
        for (int what = 0; what < 7; what++) {
            check("now(" + what + ")", x.now(what), plain.now(what));
        }
    }

    private void told() {
        int i = near(11);
        int what = near(5);
        switch (below(12)) {
            case 0:
                check("growAt(" + i + ")", x.growAt(i), plain.growAt(i));
                break;
            case 1:
                check("flowerAt(" + i + ")", x.flowerAt(i), plain.flowerAt(i));
                break;
            case 2:
                check("turn()", x.turn(), plain.turn());
                break;
            case 3:
                check("shrink()", x.shrink(), plain.shrink());
                break;
            case 4:
                check("proofAt()", x.proofAt(), plain.proofAt());
                break;
            case 5:
                check("proofBy()", TestKit.proofBy(x), plain.proofBy());
                break;
            case 6:
                check("bestOf(" + i + ")", x.bestOf(i), plain.bestOf(i));
                break;
            case 7:
                check("ask()", x.ask(), plain.ask());
                break;
            case 8:
                int at = near(27);
                check("byteAt(" + at + ")", x.byteAt(at), plain.byteAt(at));
                break;
            case 9:
                check("told(" + what + ")", x.told(what), plain.told(what));
                break;
            case 10:
                check("said(" + (i - 1) + ")", x.said(i - 1), plain.said(i - 1));
                break;
            default:
                check("count(" + what + ")", x.count(what), plain.count(what));
        }
    }

    private void asked() {
        int p = near(plain.s.size());
        int l = near(plain.s.links.size());
        int k = near(plain.s.sets.size());
        int what = near(5);
        switch (below(15)) {
            case 0:
                check("point(" + p + "," + what + ")", TestKit.point(x, p, what), plain.point(p, what));
                break;
            case 1:
            case 2:
                check("link(" + l + "," + what + ")", x.link(l, what), plain.link(l, what));
                break;
            case 3:
                check("slack(" + l + ")", TestKit.slack(x, l), plain.slack(l));
                break;
            case 4:
                check("odd(" + k + "," + what + ")", x.odd(k, what), plain.odd(k, what));
                break;
            case 5:
                check("proof()", x.proof(), plain.proof());
                break;
            case 6:
                check("room(" + p + ")", x.room(p), plain.room(p));
                break;
            case 7:
                check("best()", x.best(), plain.best());
                break;
            case 8:
                check("next()", x.next(), plain.next());
                break;
            case 9:
                int size = near(6);
                check("heavy(" + size + ")", x.heavy(size), plain.heavy(size));
                check("ways(" + size + ")", x.ways(size), plain.ways(size));
                break;
            case 10:
            case 11:
                check("gain()", x.gain(), plain.gain());
                break;
            case 12:
                int half = near(2);
                check("mean(" + half + ")", TestKit.mean(x, half), plain.mean(half));
                break;
            case 13:
                check("tag(" + p + ")", x.tag(p), plain.tag(p));
                break;
            default:
                int n = near(21);
                int seed = random.nextInt();
                check("odds(" + p + "," + n + "," + seed + ")", x.odds(p, n, seed), plain.odds(p, n, seed));
        }
    }
}
