/**
 * Networks and texts with the most of all there may be, each LINK, ODD set, POINT and LINE of them looked at by itself,
 * and rows through POINTS told in all orders.
 */
public final class FullTests {
    private static final String ABCD = TextKit.pointsText(4);
    private static final String TEN = TextKit.pointsText(10);
    private static final int[] FROM = new int[30];
    private static final int[] TO = new int[30];
    /** All sets have a and b; the only FLOWERS of a are the sets. */
    private static final String SIX = TextKit.pointsText(8) + "odd 0 a b c;odd 0 a b d;odd 0 a b e;odd 0 a b f;odd 0 a b g;odd 0 a b h;";

    public static void main(String[] args) {
        numberLinks();
        for (int l = 0; l < 30; l++) {
            pairOfThirtyLinks(l);
            tightOfThirtyLinks(l);
            belowOfThirtyLinks(l);
            weightOfThirtyLinks(l);
        }
        loneAmongManyLinks();
        linksThatCome();
        for (int k = 0; k < 6; k++) {
            oneOfSixSets(k);
            flowerOfSixSets(k);
        }
        for (int k = 0; k < 5; k++) {
            setToldOnceMore(k);
        }
        namesOfTen();
        fortiethLine();
        rowsInAllOrders();
        signsAtPoints();
        whoBehindShortTexts();
        sentencesKept();
        TestKit.finish("FullTests");
    }

    private static void due(String call, long got, long want) {
        TestKit.due(call, got, want);
    }

    private static void due(String call, boolean got, boolean want) {
        TestKit.due(call, got, want);
    }

    private static char letter(int p) {
        return (char) ('a' + p);
    }

    /** a with all others, b with all behind it, c, d: 9, 8, 7, 6. */
    private static void numberLinks() {
        int l = 0;
        for (int p = 0; p < 4; p++) {
            for (int q = p + 1; q < 10; q++) {
                FROM[l] = p;
                TO[l] = q;
                l++;
            }
        }
        due("links", l, 30);
    }

    /** LINK l weighs l and 1, so that no two are alike; an ODD set has both POINTS of one LINK and c or d. */
    private static HeavyPairs thirty(int l, int price) {
        StringBuilder text = new StringBuilder(TEN);
        for (int i = 0; i < 30; i++) {
            text.append("link ").append(letter(FROM[i])).append(' ').append(letter(TO[i])).append(' ').append(i + 1).append(';');
        }
        for (int p = 0; p < 10; p++) {
            text.append("price ").append(letter(p)).append(' ').append(price).append(';');
        }
        text.append("odd 0 ").append(letter(FROM[l])).append(' ').append(letter(TO[l])).append(' ').append(letter(third(l))).append(';');
        return TestKit.of(text.toString());
    }

    private static int third(int l) {
        for (int p = 9; p > 0; p--) {
            if (p != FROM[l] && p != TO[l]) {
                return p;
            }
        }
        return 0;
    }

    private static int both(int l) {
        return 1 << FROM[l] | 1 << TO[l];
    }

    private static void pairOfThirtyLinks(int l) {
        String at = " of link " + l;
        HeavyPairs x = thirty(l, 99);
        due("first" + at, x.link(l, 0), FROM[l]);
        due("second" + at, x.link(l, 1), TO[l]);
        due("weight" + at, x.link(l, 2), l + 1);
        due("none within" + at, x.odd(0, 2), 0);
        due("pair" + at, x.pair(TO[l], FROM[l]), 0);
        due("total" + at, x.now(0), l + 1);
        due("pairs" + at, x.now(1), 1);
        due("lone ones" + at, x.now(2), 1023 & ~both(l));
        for (int i = 0; i < 30; i++) {
            due("pair " + i + at, x.link(i, 3), i == l ? 1 : 0);
        }
        due("within" + at, x.odd(0, 2), 1);
        due("mean" + at, TestKit.mean(x, 0), l + 1);
        due("a pair not tight" + at, x.proof(), 2);
        due("it is" + at, x.proofAt(), l);
        due("by" + at, TestKit.proofBy(x), 198 - 2 * (l + 1));
        due("sentence" + at, TestKit.sentence(x, "weight=" + (l + 1)), 1);
        due("said" + at, TestKit.saidBits(x), both(l));
        due("a gain" + at, x.gain() > 0, true);
        due("part" + at, x.part(FROM[l]), 0);
        due("none" + at, x.now(0) + x.now(1), 0);
    }

    private static void tightOfThirtyLinks(int l) {
        String at = " of link " + l;
        HeavyPairs x = thirty(l, 99);
        due("none is tight" + at, x.now(3), 0);
        due("weigh" + at, x.weigh(TO[l], FROM[l], 99), 0);
        due("tight" + at, x.now(3), 1 << l);
        due("sentence" + at, TestKit.sentence(x, "tight"), 1);
        due("said" + at, TestKit.saidBits(x), both(l));
        for (int p = 0; p < 10; p++) {
            int other = p == FROM[l] ? 1 << TO[l] : p == TO[l] ? 1 << FROM[l] : 0;
            due("tight to " + p + at, TestKit.point(x, p, 3), other);
            due("room of " + p + at, x.room(p), other == 0 ? 99 : 0);
        }
        due("a lone one is priced" + at, x.proof(), 3);
        x.crown(0, 7);
        due("none is tight" + at, x.now(3), 0);
        due("slack" + at, TestKit.slack(x, l), 7);
        due("room" + at, x.room(FROM[l]), 7);
        due("room" + at, x.room(TO[l]), 7);
    }

    private static void belowOfThirtyLinks(int l) {
        String at = " of link " + l;
        HeavyPairs x = thirty(l, 99);
        x.weigh(FROM[l], TO[l], 99);
        x.price(TO[l], 90);
        due("below 0" + at, x.proof(), 1);
        due("it is" + at, x.proofAt(), l);
        due("by" + at, TestKit.proofBy(x), -9);
        due("no room" + at, x.room(FROM[l]), 0);
        due("no room" + at, x.room(TO[l]), 0);
        if (l < 29) {
            x.weigh(FROM[29], TO[29], 99);
            x.price(TO[29], 80);
            due("still" + at, x.proof(), 1);
            due("the first" + at, x.proofAt(), l);
        }
    }

    /** What is reckoned of all pairings follows each LINK's WEIGHT. */
    private static void weightOfThirtyLinks(int l) {
        String at = " of link " + l;
        StringBuilder text = new StringBuilder(TEN).append(TextKit.linksText(30));
        HeavyPairs x = TestKit.of(text.toString());
        due("four" + at, x.best(), 4);
        due("fate" + at, x.link(l, 4), TO[l] < 4 ? 0 : 1);
        x.weigh(FROM[l], TO[l], 50);
        due("heavy one" + at, x.heavy(1), 50);
        due("its fate" + at, x.link(l, 4), 2);
        due("by both ends" + at, TestKit.who(x, FROM[l], TO[l]) > 0, true);
        due("none without" + at, TestKit.who(x, FROM[l], 255), 0);
        // two of the first four POINTS can be with others, or three
        due("best" + at, x.best(), TO[l] < 4 ? 52 : 53);
        due("partner" + at, x.bestOf(FROM[l]), TO[l]);
        due("next" + at, x.next(), TO[l] < 4 ? 51 : 52);
        x.undo();
        due("undone" + at, x.best(), 4);
        due("undone: next" + at, x.next(), 3);
        due("undone: fate" + at, x.link(l, 4), TO[l] < 4 ? 0 : 1);
    }

    private static void loneAmongManyLinks() {
        HeavyPairs x = thirty(0, 0);
        TestKit.sentence(x, "weight=0");
        due("all are lone", x.said(-1), 10);
        TestKit.sentence(x, "weight>0");
        due("none has a pair", x.said(-1), 0);
        x.pair(3, 9);
        due("two have", TestKit.saidBits(x), 1 << 3 | 1 << 9);
    }

    /** LINKS of one NETWORK are the first of the next one. */
    private static void linksThatCome() {
        HeavyPairs x = new HeavyPairs();
        StringBuilder text = new StringBuilder(TEN);
        due("no points", x.best(), 0);
        due("no links", TestKit.network(x, TEN) + x.best(), 10);
        for (int i = 0; i < 5; i++) {
            text.append("link ").append(letter(2 * i)).append(' ').append(letter(2 * i + 1)).append(' ').append(i + 3).append(';');
            TestKit.network(x, text.toString());
            int total = 0;
            for (int k = 0; k <= i; k++) {
                total += k + 3;
            }
            due("best of " + (i + 1), x.best(), total);
            due("partner of the last of " + (i + 1), x.bestOf(2 * i), 2 * i + 1);
            due("ways of " + (i + 1), x.ways(i + 1), 1);
            due("fate of the last of " + (i + 1), x.link(i, 4), 2);
        }
        linksOfFour(x);
        // a WEIGHT that is a price, too
        TestKit.network(x, ABCD + "link a b 5;price a 5;");
        due("five", x.best(), 5);
        x.weigh(0, 1, 9);
        due("nine", x.best(), 9);
        TestKit.network(x, TEN + "link a b 3;");
        due("one alone again", x.best(), 3);
        TestKit.network(x, TEN);
        due("none again", x.best(), 0);
        due("none again", x.ways(1), 0);
        due("lone", TestKit.who(x, 0, 255), 1);
    }

    /** From fewer LINKS than POINTS to more, each heavier than all ahead of it. */
    private static void linksOfFour(HeavyPairs x) {
        StringBuilder text = new StringBuilder(ABCD);
        String[] links = {"a b", "c d", "a c", "b d", "a d", "b c"};
        int[] heaviest = {1, 3, 4, 12, 16, 48};
        for (int i = 0; i < 6; i++) {
            text.append("link ").append(links[i]).append(' ').append(1 << i).append(';');
            TestKit.network(x, text.toString());
            due("best of " + (i + 1) + " links of four points", x.best(), heaviest[i]);
            due("ways of " + (i + 1) + " links of four points", x.ways(1), i + 1);
        }
    }

    private static void oneOfSixSets(int k) {
        String of = " of set " + k;
        HeavyPairs x = TestKit.of(SIX);
        due("crown" + of, x.crown(k, 5), 0);
        for (int i = 0; i < 6; i++) {
            due("points of " + i + of, x.odd(i, 0), 3 | 4 << i);
            due("price of " + i + of, x.odd(i, 1), i == k ? 5 : 0);
        }
        due("that is it" + of, x.crown(k, 5), 1);
        due("bound" + of, x.now(4), 5);
        due("proof" + of, x.proof(), 4);
        due("it is" + of, x.proofAt(), k);
        due("by" + of, TestKit.proofBy(x), 5);
        due("sets of the third" + of, TestKit.point(x, k + 2, 4), 1 << k);
        due("sets of a" + of, TestKit.point(x, 0, 4), 63);
        due("sentence" + of, TestKit.sentence(x, "in " + k), 1);
        due("said" + of, TestKit.saidBits(x), 3 | 4 << k);
        due("priced" + of, x.open(k), 1);
        x.crown(k, 0);
        due("open" + of, x.open(k), 0);
        due("five" + of, x.count(2), 5);
        for (int i = 0; i < 5; i++) {
            due("points behind, of " + i + of, x.odd(i, 0), 3 | 4 << (i < k ? i : i + 1));
        }
        due("sets of the third" + of, TestKit.point(x, k + 2, 4), 0);
        due("undo" + of, x.undo(), 2);
        due("it is again" + of, x.odd(k, 0), 3 | 4 << k);
        due("six" + of, x.count(2), 6);
    }

    private static void flowerOfSixSets(int k) {
        String of = " of set " + k;
        String ring = "link a b 1;link b " + letter(k + 2) + " 1;link " + letter(k + 2) + " a 1;pair b " + letter(k + 2) + ";";
        HeavyPairs x = TestKit.of(SIX + ring);
        due("flower" + of, x.flower(0), 3);
        due("an odd set" + of, x.shrink(), 2);
        due("open" + of, x.open(k), 0);
        due("shrunk" + of, x.shrink(), 0);
        due("the last" + of, x.odd(5, 0), 3 | 4 << k);
        due("slack" + of, x.crown(5, 3) + TestKit.slack(x, 0), 1);
    }

    private static void setToldOnceMore(int k) {
        StringBuilder text = new StringBuilder(TEN);
        for (int i = 0; i < 5; i++) {
            text.append("odd 0 a b ").append(letter(i + 2)).append(';');
        }
        text.append("odd 9 ").append(letter(k + 2)).append(" b a");
        HeavyPairs x = new HeavyPairs();
        due("once more, set " + k, TestKit.network(x, text + ";"), -1 - text.length());
        due("its fault, set " + k, x.fault(), 3);
    }

    private static void namesOfTen() {
        String[] names = {"q", "zz", "abc", "wxyz", "lonex", "tightt", "pointsx", "b", "aaaaaaa", "jay"};
        StringBuilder text = new StringBuilder();
        for (String name : names) {
            text.append("point ").append(name).append(';');
        }
        HeavyPairs x = TestKit.of(text + "link jay q 9;");
        names(x, names, "told");
        x.image(1);
        TestKit.network(x, TEN);
        for (int p = 0; p < 10; p++) {
            due("another name " + p, TestKit.tagText(x, p).equals(letter(p) + " lone at 0"), true);
        }
        x.restore(1);
        names(x, names, "restored");
        x.pair(0, 9);
        due("both", TestKit.tagText(x, 0).equals("q with jay at 0"), true);
        due("both", TestKit.tagText(x, 9).equals("jay with q at 0"), true);
        x.undo();
        names(x, names, "undone");
        for (int p = 0; p < 10; p++) {
            due("by its name " + p, TestKit.book(x, "price " + names[p] + " " + (p + 1) + ";", 1), -1);
            due("priced " + p, TestKit.point(x, p, 1), p + 1);
        }
        x.restore(1);
        due("no prices", x.now(4), 0);
    }

    private static void names(HeavyPairs x, String[] names, String when) {
        for (int p = 0; p < 10; p++) {
            due("name " + p + " " + when, TestKit.tagText(x, p).equals(names[p] + " lone at 0"), true);
        }
    }

    /** Each sort of LINE as the fortieth; it is lived, and a FAULT in it is told. */
    private static void fortiethLine() {
        StringBuilder text = new StringBuilder("price a 1;price a 2;");
        for (int i = 2; i < 39; i++) {
            text.append(i % 2 == 0 ? "part b;" : "grow b;");
        }
        String network = ABCD + "link a b 5;link a c 4;link d b 3;pair a b;odd 3 a b c;odd 0 b c d;";
        String[] lines = {"pair c a;", "part a;", "weigh a c 9;", "price d 8;", "crown 0 4;", "open 1;", "grow a;"};
        for (int i = 0; i < lines.length; i++) {
            // a and b are parted at last behind 37 LINES that part and grow by turns
            HeavyPairs x = TestKit.of(network);
            due("forty, the last " + lines[i], TestKit.book(x, text + lines[i], 1), i == 1 ? 39 : -1);
            due("told of " + lines[i], x.told(1), i == 1 ? 39 : 40);
            int[] got = {x.link(1, 3), x.told(0), x.link(1, 2), TestKit.point(x, 3, 1), x.odd(0, 1), x.count(2), x.now(1)};
            int[] want = {1, 11, 9, 8, 4, 1, 1};
            due("lived " + lines[i], got[i], want[i]);
            due("one more behind " + lines[i], TestKit.book(x, text + lines[i] + lines[i], 1), -2 - text.length() - lines[i].length());
            due("its fault", x.fault(), 4);
        }
        faultInFortieth(text.toString(), 3, "pair a ^a;");
        faultInFortieth(text.toString(), 3, "weigh a ^e 1;");
        faultInFortieth(text.toString(), 2, "weigh a b ^0;");
        faultInFortieth(text.toString(), 2, "crown ^6 1;");
        faultInFortieth(text.toString(), 2, "price a ^401;");
        faultInFortieth(text.toString(), 1, "open ^a;");
        faultInFortieth(text.toString(), 3, "grow ^e;");
    }

    private static void faultInFortieth(String ahead, int kind, String marked) {
        TextKit.faultyBook(kind, ahead + marked);
    }

    /** The only PATH, and the only ring, are found whichever numbers their POINTS have. */
    private static void rowsInAllOrders() {
        TextKit.inAllOrders(5, "link a b 1;link b c 1;link c d 1;pair b c;", (x, n) -> {
            due("path", x.grow(n[0]), 3);
            for (int k = 0; k < 4; k++) {
                due("point " + k + " of the path", x.growAt(k), n[k]);
            }
            due("back", x.grow(n[3]), 3);
            for (int k = 0; k < 4; k++) {
                due("point " + k + " back", x.growAt(k), n[3 - k]);
            }
            due("turn", x.turn(), 0);
            due("a with b", TestKit.point(x, n[0], 0), n[1]);
            due("d with c", TestKit.point(x, n[3], 0), n[2]);
            due("none more", x.grow(n[4]), -1);
        });
        TextKit.inAllOrders(6, "link a b 1;link b c 1;link c d 1;link d e 1;link e f 1;pair b c;pair d e;", (x, n) -> {
            due("path", x.grow(n[0]), 5);
            for (int k = 0; k < 6; k++) {
                due("point " + k + " of the path", x.growAt(k), n[k]);
            }
        });
        TextKit.inAllOrders(5, "link a b 1;link b c 1;link c d 1;link d e 1;link e a 1;pair b c;pair d e;", (x, n) -> {
            due("flower", x.flower(n[0]), 5);
            boolean forth = n[1] < n[4];
            for (int k = 0; k < 5; k++) {
                due("point " + k + " of the flower", x.flowerAt(k), k == 0 || forth ? n[k] : n[5 - k]);
            }
            due("shrink", x.shrink(), 0);
            due("all five", x.odd(0, 0), 31);
        });
        TextKit.inAllOrders(4, "link a b 1;link b c 1;link c a 1;link c d 1;pair b c;", (x, n) -> {
            due("flower", x.flower(n[0]), 3);
            due("second", x.flowerAt(1), Math.min(n[1], n[2]));
            due("third", x.flowerAt(2), Math.max(n[1], n[2]));
            due("none of d", x.flower(n[3]), -1);
            due("the path of d", x.grow(n[3]), 3);
        });
    }

    /** Of all signs those alone that are a POINT's NAME can come where a POINT is due. */
    private static void signsAtPoints() {
        for (int sign = 0; sign < 256; sign++) {
            char c = (char) sign;
            boolean name = c >= 'a' && c <= 'z';
            HeavyPairs x = TestKit.of("point m;point n;link m n 3;");
            int blank = c == ' ' || c == '\n' ? 1 : 0;
            due("part, sign " + sign, TestKit.book(x, "part " + c + ";", 0), c == 'm' || c == 'n' ? 0 : -7 - blank);
            due("fault of part, sign " + sign, x.fault(), c == 'm' || c == 'n' ? 0 : name ? 3 : 1);
            due("with, sign " + sign, TestKit.sentence(x, "with " + c), c == 'm' || c == 'n' ? 1 : -6 - blank);
            due("fault of with, sign " + sign, x.fault(), c == 'm' || c == 'n' ? 0 : name ? 3 : 1);
            due("link, sign " + sign, TestKit.network(x, "point m;point n;link " + c + " m 3;"), c == 'n' ? 3 : c == 'm' ? -24 : blank == 1 ? -26 : -22);
            due("fault of link, sign " + sign, x.fault(), c == 'n' ? 0 : c == 'm' || name ? 3 : 1);
            TestKit.network(x, "point m;");
            due("point, sign " + sign, TestKit.network(x, "point m;point " + c + ";"), name && c != 'm' ? 2 : -15 - blank);
            due("fault of point, sign " + sign, x.fault(), c == 'm' ? 3 : name ? 0 : 1);
        }
    }

    /** A tape of bytes is read whole, however short the latest text was. */
    private static void whoBehindShortTexts() {
        HeavyPairs x = TestKit.of(ABCD + "link a b 2;link c d 2;link b c 1;");
        due("behind a network", TestKit.who(x, 0, 1, 1, 0, 2, 3, 3, 2, 0, 1, 1, 0), 1);
        TestKit.sentence(x, "in 0");
        due("behind a sentence of four", TestKit.who(x, 0, 1, 1, 0, 2, 3, 3, 2, 0, 1, 1, 0), 1);
        due("by the last pair", TestKit.who(x, 0, 1, 1, 0, 2, 3, 3, 2, 0, 1, 3, 255), 0);
        TestKit.book(x, "", 0);
        due("behind an empty book", TestKit.who(x, 0, 1), 1);
        due("behind an empty book", TestKit.who(x, 0, 255), 0);
        due("behind an empty book, no point", TestKit.who(x, 4, 255), -1);
    }

    /** An image keeps the SENTENCE that stands, not the text read last. */
    private static void sentencesKept() {
        HeavyPairs x = TestKit.of(ABCD + "link a b 2;pair a b;");
        TestKit.sentence(x, "lone");
        TestKit.sentence(x, "not lone or in");
        x.image(0);
        TestKit.sentence(x, "with a");
        x.image(1);
        TestKit.sentence(x, "number<1 or");
        x.restore(0);
        due("lone", TestKit.saidBits(x), 0b1100);
        x.restore(1);
        due("with a", TestKit.saidBits(x), 0b0010);
        TestKit.sentence(x, "number=3");
        x.restore(0);
        due("lone again", TestKit.saidBits(x), 0b1100);
        TestKit.network(x, ABCD);
        x.image(0);
        TestKit.sentence(x, "lone");
        x.restore(0);
        due("none was", x.said(-1), -1);
        x.restore(1);
        due("with a again", TestKit.saidBits(x), 0b0010);
    }
}
