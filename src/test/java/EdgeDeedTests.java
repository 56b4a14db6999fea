/** Edges of what is so and of all deeds (promises 6 to 23): each edge begins with the document's words that it tests. */
public final class EdgeDeedTests {
    private static final int DEEDS = EdgeKit.DEEDS;
    private static final int THROWS = TestKit.THROWS;
    private static final int LEAST = Integer.MIN_VALUE;
    private static final int MOST = Integer.MAX_VALUE;

    private static final String ABCD = TextKit.pointsText(4);
    private static final String ABCDEF = TextKit.pointsText(6);
    private static final String TEN = TextKit.pointsText(10);
    /** b and c are a pair between a and d, which are lone; e is linked to none; two ODD sets. */
    private static final String SMALL = TextKit.pointsText(5)
            + "link a b 3;link b c 4;link c d 5;link a c 6;pair b c;price a 5;price b 1;odd 2 a b c;odd 0 b c d;";
    /** The only PATH of a goes through all six. */
    private static final String ROW = ABCDEF + "link a b 4;link b c 9;link c d 4;link d e 9;link e f 4;pair b c;pair e d;";
    /** All LINKS of five, two pairs, a is lone. */
    private static final String STAR = TextKit.pointsText(5) + "link a b 1;link a c 1;link a d 1;link a e 1;link b c 1;"
            + "link b d 1;link b e 1;link c d 1;link c e 1;link d e 1;pair b c;pair d e;";

    public static void main(String[] args) {
        EdgeKit.tests(DEEDS, 6, 7, 8, 9, 10, 11, 12, 13, 14, 15, 16, 17, 18, 19, 20, 21, 22, 23);
        slacks();
        plainDeeds();
        paths();
        pathsOfFewest();
        turning();
        growingInBooks();
        flowers();
        flowersOfFewest();
        shrinking();
        point();
        link();
        slackAndOdd();
        now();
        pairAndPart();
        weigh();
        priceAndCrown();
        open();
        grow();
        turn();
        flower();
        shrink();
        undoOfDeeds();
        undoBehindDeeds();
        undoKeptBehindRefused();
        undoOfMany();
        undoKept();
        EdgeKit.finish("EdgeDeedTests");
    }

    private static void edge(int section, String quote) {
        EdgeKit.edge(section, quote);
    }

    private static void due(String call, long got, long want) {
        EdgeKit.due(call, got, want);
    }

    private static void due(String call, boolean got, boolean want) {
        EdgeKit.due(call, got, want);
    }

    private static void row(HeavyPairs x, int links, int... points) {
        due("how many", x.grow(points[0]), links);
        for (int k = 0; k < points.length; k++) {
            due("point " + k, x.growAt(k), points[k]);
        }
        due("none behind", x.growAt(points.length), -1);
    }

    private static void ring(HeavyPairs x, int... points) {
        due("how many", x.flower(points[0]), points.length);
        for (int k = 0; k < points.length; k++) {
            due("point " + k, x.flowerAt(k), points[k]);
        }
        due("none behind", x.flowerAt(points.length), -1);
    }

    private static void slacks() {
        edge(DEEDS, "PRICES are told in HALVES.");
        HeavyPairs x = TestKit.of(ABCD + "link a b 3;price a 3;");
        due("three halves of six", TestKit.slack(x, 0), -3);

        edge(DEEDS, "SLACK of a LINK: the prices of both POINTS and of all ODD sets that have both, less twice its WEIGHT.");
        x = TestKit.of(ABCDEF + "link a b 10;price a 7;price b 2;price c 100;"
                + "odd 3 a b c;odd 5 f e d b a;odd 50 a c d;odd 60 b c d;odd 70 d e f;");
        due("7 and 2 and 3 and 5 less 20", TestKit.slack(x, 0), -3);
        x.weigh(0, 1, 11);
        due("less 22", TestKit.slack(x, 0), -5);
        due("the least", TestKit.slack(TestKit.of(ABCD + "link a b 99;"), 0), -198);
        x = TestKit.of(TextKit.pointsText(8) + "link a b 1;price a 400;price b 400;odd 400 a b c;odd 400 a b d;odd 400 a b e;"
                + "odd 400 a b f;odd 400 a b g;odd 400 a b h;");
        due("the greatest", TestKit.slack(x, 0), 8 * 400 - 2);

        // of ODD sets that are: not of one that moved, was undone, or was told ahead
        x = TestKit.of(ABCD + "link a b 10;odd 0 a b d;odd 7 a b c;");
        due("7 less 20", TestKit.slack(x, 0), -13);
        x.open(0);
        due("once, behind another that was opened", TestKit.slack(x, 0), -13);
        x.crown(0, 9);
        due("9 less 20", TestKit.slack(x, 0), -11);
        TestKit.network(x, ABCD + "link a b 10;");
        due("none is told", TestKit.slack(x, 0), -20);
        x = TestKit.of(ABCD + "link a b 10;link b c 1;link c a 1;pair b c;");
        x.flower(0);
        x.shrink();
        x.crown(0, 5);
        due("5 less 20", TestKit.slack(x, 0), -15);
        x.undo();
        x.undo();
        due("undone", TestKit.slack(x, 0), -20);

        edge(DEEDS, "It is TIGHT, if that is 0.");
        x = TestKit.of(ABCD + "link a b 2;link b c 2;link c d 2;price a 1;price b 2;price c 2;price d 3;");
        due("at -1, 0 and 1", x.now(3), 0b010);

        edge(DEEDS, "TOTAL of a pairing: the WEIGHTS of its pairs.");
        x = TestKit.of(ABCD + "link a b 20;link b c 50;link c d 3;pair a b;pair d c;");
        due("of two", x.now(0), 23);
        x.part(0);
        due("of one", x.now(0), 3);
        x.part(2);
        due("of none", x.now(0), 0);
    }

    private static void plainDeeds() {
        edge(DEEDS, "To PAIR two: 1 they are not linked; 2 one is paired: they are.");
        HeavyPairs x = TestKit.of(SMALL);
        due("not linked", x.pair(0, 3), 1);
        due("not linked, one is paired", x.pair(1, 3), 1);
        due("the first is paired", x.pair(1, 0), 2);
        due("the second is paired", x.pair(0, 1), 2);
        due("both are paired", x.pair(1, 2), 2);
        x.part(1);
        due("they are", x.pair(2, 3), 0);
        due("they are", TestKit.point(x, 2, 0) * 10 + TestKit.point(x, 3, 0), 32);

        edge(DEEDS, "To PART one: 1 it is lone: it and the other one are.");
        due("lone", x.part(0), 1);
        due("paired", x.part(3), 0);
        due("it is", TestKit.point(x, 3, 0), -1);
        due("the other one is", TestKit.point(x, 2, 0), -1);
        due("lone now", x.part(2), 1);

        edge(DEEDS, "To WEIGH two: 1 they are not linked; 2 that is the WEIGHT: it is.");
        due("not linked", x.weigh(0, 3, 3), 1);
        due("that is the weight", x.weigh(1, 0, 3), 2);
        due("another", x.weigh(1, 0, 4), 0);
        due("it is", x.link(0, 2), 4);
        due("that is the weight now", x.weigh(0, 1, 4), 2);

        edge(DEEDS, "To PRICE a POINT, to CROWN an ODD set: 1 that is its price: it is.");
        due("that is its price", x.price(0, 5), 1);
        due("another", x.price(0, 6), 0);
        due("it is", TestKit.point(x, 0, 1), 6);
        due("that is its price now", x.price(0, 6), 1);
        due("0 without", x.price(2, 0), 1);
        due("that is its price", x.crown(0, 2), 1);
        due("another", x.crown(0, 3), 0);
        due("it is", x.odd(0, 1), 3);
        due("that is its price now", x.crown(0, 3), 1);
        due("the other stays", x.odd(1, 1), 0);

        edge(DEEDS, "To OPEN an ODD set: 1 its price is above 0: it is none any more");
        x = TestKit.of(SMALL);
        due("priced 2", x.open(0), 1);
        x.crown(0, 1);
        due("priced 1", x.open(0), 1);
        due("it stays", x.count(2), 2);
        due("priced 0", x.open(1), 0);
        due("one is left", x.count(2), 1);
        due("none any more", x.odd(1, 0), -1);
        due("no bit of it", TestKit.point(x, 3, 4), 0);

        edge(DEEDS, "those behind it have numbers 1 less.");
        x = TestKit.of(TEN + "odd 1 a b c;odd 0 a b d;odd 3 a b e;odd 4 a b f;odd 5 a b g;odd 0 a b h;");
        due("the second", x.open(1), 0);
        int[] prices = {1, 3, 4, 5, 0};
        int[] last = {2, 4, 5, 6, 7};
        for (int k = 0; k < 5; k++) {
            due("price of " + k, x.odd(k, 1), prices[k]);
            due("points of " + k, x.odd(k, 0), 0b11 | 1 << last[k]);
        }
        due("no sixth", x.odd(5, 0), -1);
        due("the last", x.open(4), 0);
        due("none behind it", x.odd(3, 1), 5);
        x.crown(0, 0);
        due("the first", x.open(0), 0);
        due("all behind it", x.odd(0, 1) * 100 + x.odd(1, 1) * 10 + x.odd(2, 1), 345);
    }

    private static void paths() {
        edge(DEEDS, "A PATH of a lone POINT: a row of unlike POINTS from it to another lone one");
        row(TestKit.of(ABCD + "link a b 1;"), 1, 0, 1);
        // back to itself is to no other one
        due("a ring of three", TestKit.of(ABCD + "link a b 1;link b c 1;link c a 1;pair b c;").grow(0), -1);
        // a b c d e c b f would have b and c twice
        due("a point twice", TestKit.of(ABCDEF + "link a b 1;link b c 1;pair b c;link c d 1;link d e 1;pair d e;link e c 1;"
                + "link b f 1;").grow(0), -1);
        due("the last is paired", TestKit.of(ABCD + "link a b 1;link b c 1;pair b c;").grow(0), -1);
        due("not lone", TestKit.of(ABCD + "link a b 1;link b c 1;pair b c;").grow(1), -1);

        edge(DEEDS, "each LINKED to the next one");
        due("the last link wants", TestKit.of(ABCD + "link a b 1;link b c 1;pair b c;link b d 1;").grow(0), -1);
        due("no links", TestKit.of(ABCD).grow(0), -1);

        edge(DEEDS, "the first LINK not of a pair, then by turns of a pair, and not");
        HeavyPairs x = TestKit.of(ROW);
        row(x, 5, 0, 1, 2, 3, 4, 5);
        row(x, 5, 5, 4, 3, 2, 1, 0);
        x.part(1);
        row(x, 1, 0, 1);
        row(x, 1, 2, 1);
        // c is lone, but behind a link that is not of a pair another one can't come
        due("two links in a row", TestKit.of(ABCD + "link a b 1;link b c 1;link b d 1;pair b d;").grow(0), -1);
        StringBuilder text = new StringBuilder(TEN);
        for (int p = 0; p < 9; p++) {
            text.append("link ").append((char) ('a' + p)).append(' ').append((char) ('b' + p)).append(" 1;");
        }
        x = TestKit.of(text + "pair b c;pair d e;pair f g;pair h i;");
        row(x, 9, 0, 1, 2, 3, 4, 5, 6, 7, 8, 9);
        row(x, 9, 9, 8, 7, 6, 5, 4, 3, 2, 1, 0);
    }

    private static void pathsOfFewest() {
        edge(DEEDS, "of fewest LINKS");
        // a b c d has lesser points than a e
        row(TestKit.of(TextKit.pointsText(5) + "link a b 1;link b c 1;pair b c;link c d 1;link a e 1;"), 1, 0, 4);
        // a b c d e f against a g h f
        row(TestKit.of(TextKit.pointsText(8) + "link a b 1;link b c 1;pair b c;link c d 1;link d e 1;pair d e;link e f 1;"
                + "link a g 1;link g h 1;pair g h;link h f 1;"), 3, 0, 6, 7, 5);

        edge(DEEDS, "of like ones the first: POINT by POINT the least.");
        // a c d e is told first, its third point is less: the second one counts ahead
        row(TestKit.of(ABCDEF + "link a c 1;link c d 1;link d e 1;pair c d;link a b 1;link b f 1;link f e 1;pair b f;"),
                3, 0, 1, 5, 4);
        // like up to the last one
        row(TestKit.of(ABCDEF + "link c f 1;link c e 1;link c d 1;link b c 1;pair b c;link b a 1;"), 3, 0, 1, 2, 3);
        row(TestKit.of(ABCDEF + "link a f 1;link a e 1;link a d 1;"), 1, 0, 3);
        // like up to the fourth
        row(TestKit.of(TextKit.pointsText(8) + "link a b 1;link b h 1;pair b h;link h e 1;link e f 1;pair e f;link f g 1;"
                + "link h c 1;link c d 1;pair c d;link d g 1;"), 5, 0, 1, 7, 2, 3, 6);
        // from another end the row need not be the same one backwards
        HeavyPairs x = TestKit.of(ABCDEF + "link a b 1;link b f 1;pair b f;link f e 1;link a d 1;link d c 1;pair c d;link c e 1;");
        row(x, 3, 0, 1, 5, 4);
        row(x, 3, 4, 2, 3, 0);
    }

    private static void turning() {
        edge(DEEDS, "To TURN it: 1 there is none, or it is none any more by LINKS and pairs as they are");
        due("there is none", new HeavyPairs().turn(), 1);
        HeavyPairs x = TestKit.of(ROW);
        due("there is none", x.turn(), 1);
        x.grow(0);
        x.part(1);
        due("a pair is none", x.turn(), 1);
        x.pair(0, 1);
        due("the first is paired", x.turn(), 1);
        x.part(0);
        x.pair(1, 2);
        x.part(3);
        x.pair(4, 5);
        due("the last is paired", x.turn(), 1);
        x.part(4);
        x.pair(3, 4);
        due("as it was", x.turn(), 0);
        due("turned already", x.turn(), 1);
        // the same pairs, but a link wants
        x = TestKit.of(ROW);
        x.grow(0);
        TestKit.network(x, ABCDEF + "link a b 4;link b c 9;link d e 9;link e f 4;pair b c;pair e d;");
        due("c and d are not linked", x.turn(), 1);
        TestKit.network(x, TextKit.pointsText(5) + "link a b 4;link b c 9;link c d 4;link d e 9;pair b c;pair e d;");
        due("f is no point", x.turn(), 1);
        due("nothing was turned", x.now(5), 0);
        // one end alone is paired, with a point that is not in the path
        String ends = ABCDEF + "link a b 4;link b c 9;link c d 4;pair b c;link a e 1;link d f 1;link e f 1;pair e f;";
        for (int end = 0; end <= 3; end += 3) {
            x = TestKit.of(ends);
            x.grow(0);
            due("grown from a to d", x.growAt(3), 3);
            x.part(4);
            x.pair(end, end == 0 ? 4 : 5);
            String ahead = TestKit.state(x);
            due("an end is paired: " + end, x.turn(), 1);
            due("all stays: " + end, TestKit.state(x).equals(ahead), true);
            x.part(end);
            due("lone again: " + end, x.turn(), 0);
        }
        // pairs that are others: b with d, c with e
        TestKit.network(x, ABCDEF + "link a b 4;link b c 9;link c d 4;link d e 9;link e f 4;link b d 1;link c e 1;pair b d;pair c e;");
        due("other pairs", x.turn(), 1);
        due("nothing was turned", x.now(1), 2);

        edge(DEEDS, "(that there are shorter ones now is no matter; so, too, with a FLOWER)");
        x = TestKit.of(ABCDEF + "link a b 1;link b c 1;pair b c;link c d 1;link a e 1;link e f 1;pair e f;");
        due("three links", x.grow(0), 3);
        x.part(4);
        due("a shorter one is there, it is turned", x.turn(), 0);
        due("a with b", TestKit.point(x, 0, 0), 1);
        due("c with d", TestKit.point(x, 2, 0), 3);
        due("e stays", TestKit.point(x, 4, 0), -1);
        x = TestKit.of(TextKit.pointsText(7) + "link a b 1;link b c 1;pair b c;link c d 1;link d e 1;pair d e;link e a 1;"
                + "link a f 1;link f g 1;link g a 1;");
        due("a flower of five", x.flower(0), 5);
        x.pair(5, 6);
        due("one of three is there", x.shrink(), 0);
        due("the five are an odd set", x.odd(0, 0), 0b11111);

        edge(DEEDS, "LINKS of it that were none of a pair are pairs now, the others are not.");
        x = TestKit.of(ROW);
        x.grow(5);
        due("turned", x.turn(), 0);
        int[] pairs = {1, 0, 1, 0, 1};
        for (int l = 0; l < 5; l++) {
            due("link " + l, x.link(l, 3), pairs[l]);
        }
        due("none is lone", x.now(2), 0);
        x = TestKit.of(ABCD + "link a b 1;link c d 1;pair c d;");
        x.grow(1);
        due("one link", x.turn(), 0);
        due("pairs off it stay", x.now(1), 2);
    }

    private static void growingInBooks() {
        edge(DEEDS, "(To GROW a POINT in a BOOK: 1 it is not lone; 2 it has no PATH; else that is TURNED; what grow() told stays.)");
        HeavyPairs x = TestKit.of(SMALL);
        due("b is not lone", TestKit.book(x, "grow b;", 1), 0);
        due("why", x.told(0), 61);
        due("e has no path", TestKit.book(x, "grow e;", 1), 0);
        due("why", x.told(0), 62);
        due("ahead of any", x.growAt(0), -1);
        due("a and d", TestKit.book(x, "grow d;", 1), -1);
        due("turned", x.now(0), 3 + 5);
        due("paths turned", x.now(5), 1);
        due("ahead of any still", x.growAt(0), -1);
        due("nothing to turn", x.turn(), 1);
        x = TestKit.of(SMALL);
        x.grow(3);
        TestKit.book(x, "part b;grow b;", 1);
        due("what grow() told", x.growAt(0), 3);
        due("what grow() told", x.growAt(3), 0);
    }

    private static String ringOf(int many) {
        StringBuilder text = new StringBuilder(TEN);
        for (int p = 0; p < many; p++) {
            text.append("link ").append((char) ('a' + p)).append(' ').append((char) ('a' + (p + 1) % many)).append(" 1;");
        }
        for (int p = 1; p + 1 < many; p += 2) {
            text.append("pair ").append((char) ('a' + p)).append(' ').append((char) ('b' + p)).append(';');
        }
        return text.toString();
    }

    private static void flowers() {
        edge(DEEDS, "A FLOWER of a POINT: a row of unlike POINTS from it on, 2 k and 1 of them (k from 1 on)");
        for (int many = 3; many <= 9; many += 2) {
            HeavyPairs x = TestKit.of(ringOf(many));
            due("a ring of " + many, x.flower(0), many);
            for (int p = 0; p < many; p++) {
                due("point " + p + " of " + many, x.flowerAt(p), p);
            }
            due("a point inside", x.flower(1), -1);
            due("a point outside", x.flower(9), -1);
        }
        due("a ring of four", TestKit.of(ringOf(4)).flower(0), -1);
        due("a lone point is none", TestKit.of(ABCD).flower(0), -1);
        due("two are none", TestKit.of(ABCD + "link a b 1;pair a b;").flower(0), -1);
        // a b c d e c b would have b and c twice
        HeavyPairs x = TestKit.of(TextKit.pointsText(5) + "link a b 1;link b c 1;pair b c;link c d 1;link d e 1;pair d e;link e c 1;");
        due("a point twice", x.flower(0), -1);
        ring(x, 2, 3, 4);
        // its own partner can't come in
        x = TestKit.of(ABCD + "link a b 1;link b c 1;link c a 1;pair a b;");
        due("by its own pair", x.flower(0), -1);
        ring(x, 2, 0, 1);
        // a paired point can have one
        x = TestKit.of(ABCD + "link a b 1;link b c 1;link c a 1;link a d 1;pair b c;pair a d;");
        ring(x, 0, 1, 2);

        edge(DEEDS, "LINKED each to the next one, the last one to the first");
        due("the last link wants", TestKit.of(ABCD + "link a b 1;link b c 1;pair b c;").flower(0), -1);
        due("the first link wants", TestKit.of(ABCD + "link a c 1;link b c 1;pair b c;").flower(0), -1);
        due("a link between wants", TestKit.of(TextKit.pointsText(5) + "link a b 1;link b c 1;link d e 1;link e a 1;pair b c;pair d e;")
                .flower(0), -1);

        edge(DEEDS, "the second and third, fourth and fifth, and so on are pairs");
        x = TestKit.of(ringOf(5));
        x.part(3);
        due("the second pair wants", x.flower(0), -1);
        x.pair(3, 4);
        due("both are", x.flower(0), 5);
        x.part(1);
        due("the first pair wants", x.flower(0), -1);
        x = TestKit.of(ABCD + "link a b 1;link b c 1;link c a 1;");
        due("no pair", x.flower(0), -1);
    }

    private static void flowersOfFewest() {
        edge(DEEDS, "of fewest POINTS");
        // a b c d e has lesser points than a f g
        HeavyPairs x = TestKit.of(TextKit.pointsText(7) + "link a b 1;link b c 1;pair b c;link c d 1;link d e 1;pair d e;link e a 1;"
                + "link a f 1;link f g 1;link g a 1;pair f g;");
        ring(x, 0, 5, 6);
        x.part(5);
        ring(x, 0, 1, 2, 3, 4);

        edge(DEEDS, "of like ones the first: POINT by POINT the least.");
        // the same ring the other way round, told backwards
        ring(TestKit.of(ABCD + "link c a 1;link c b 1;link b a 1;pair c b;"), 0, 1, 2);
        // a b g against a c d: the second point counts ahead of the third
        ring(TestKit.of(TextKit.pointsText(7) + "link a c 1;link c d 1;link d a 1;pair c d;link a b 1;link b g 1;link g a 1;pair b g;"),
                0, 1, 6);
        // like up to the fourth: a b h c d and a b h e f
        ring(TestKit.of(TextKit.pointsText(8) + "link a b 1;link b h 1;pair b h;link h e 1;link e f 1;pair e f;link f a 1;"
                + "link h c 1;link c d 1;pair c d;link d a 1;"), 0, 1, 7, 2, 3);
        ring(TestKit.of(STAR), 0, 1, 2);
    }

    private static void shrinking() {
        String six = TextKit.pointsText(8) + "link a b 1;link b c 1;link c a 1;pair b c;";
        String others = "odd 0 a b d;odd 0 a b e;odd 0 a b f;odd 0 a b g;odd 0 a b h;";
        edge(DEEDS, "To SHRINK it: why not, the least: 1 there is none, or it is none any more");
        due("there is none", new HeavyPairs().shrink(), 1);
        HeavyPairs x = TestKit.of(six);
        due("there is none", x.shrink(), 1);
        x.flower(0);
        x.part(1);
        due("a pair is none", x.shrink(), 1);
        x.pair(0, 1);
        due("another pair", x.shrink(), 1);
        due("no odd set came", x.count(2), 0);
        TestKit.network(x, TextKit.pointsText(8) + "link a b 1;link b c 1;pair b c;");
        due("the last link is none", x.shrink(), 1);
        TestKit.network(x, TextKit.pointsText(8) + "link a c 1;link b c 1;pair b c;");
        due("the first link is none", x.shrink(), 1);
        TestKit.network(x, "point a;point b;link a b 1;");
        due("c is no point", x.shrink(), 1);
        // 1 ahead of 2 and of 3
        x = TestKit.of(six + "odd 0 a b c;" + others);
        x.flower(0);
        x.part(1);
        due("an odd set, too, and six", x.shrink(), 1);

        edge(DEEDS, "2 its POINTS are an ODD set");
        x.pair(1, 2);
        due("an odd set, and six", x.shrink(), 2);
        x.open(5);
        due("an odd set of five", x.shrink(), 2);
        x = TestKit.of(six + "odd 9 c b a;");
        x.flower(0);
        due("told in another order", x.shrink(), 2);
        due("it stays", x.odd(0, 1), 9);

        edge(DEEDS, "3 there are 6 ODD sets");
        x = TestKit.of(six + others + "odd 0 a c d;");
        x.flower(0);
        due("six", x.shrink(), 3);
        due("six stay", x.count(2), 6);
        due("no flower was shrunk", x.now(6), 0);
        x.open(0);
        due("five", x.shrink(), 0);
        due("six", x.count(2), 6);

        edge(DEEDS, "they are one, priced 0.");
        due("behind the others", x.odd(5, 0), 0b111);
        due("priced 0", x.odd(5, 1), 0);
        x.crown(5, 7);
        x.crown(5, 0);
        x.open(5);
        due("again", x.shrink(), 0);
        due("priced 0", x.odd(5, 1), 0);
        // where a set of some price was
        x = TestKit.of(six + "odd 7 a b d;");
        TestKit.network(x, six);
        x.flower(0);
        x.shrink();
        due("priced 0 in place of another", x.odd(0, 1), 0);
    }

    private static void point() {
        // slacks: a b 5 + 1 + 2 - 6, b c 1 + 0 + 2 - 8, c d -10, a c 5 + 2 - 12
        HeavyPairs x = TestKit.of(SMALL);
        edge(6, "Of a POINT: 0 its partner (NONE)");
        int[] partners = {-1, 2, 1, -1, -1};
        for (int p = 0; p < 5; p++) {
            due("partner of " + p, TestKit.point(x, p, 0), partners[p]);
        }

        edge(6, "1 its price");
        int[] prices = {5, 1, 0, 0, 0};
        for (int p = 0; p < 5; p++) {
            due("price of " + p, TestKit.point(x, p, 1), prices[p]);
        }

        edge(6, "2 POINTS linked to it");
        int[] near = {0b110, 0b101, 0b1011, 0b100, 0};
        for (int p = 0; p < 5; p++) {
            due("linked to " + p, TestKit.point(x, p, 2), near[p]);
        }
        due("the last of ten", TestKit.point(TestKit.of(TEN + "link a j 1;"), 0, 2), 1 << 9);

        edge(6, "3 to which LINKS are TIGHT");
        due("none", TestKit.point(x, 0, 3), 0);
        x.price(0, 3);
        due("a to b", TestKit.point(x, 0, 3), 0b10);
        due("b to a", TestKit.point(x, 1, 3), 0b01);
        due("c to none", TestKit.point(x, 2, 3), 0);
        x.weigh(1, 2, 1);
        x.price(2, 1);
        x.price(1, 0);
        due("below 0 and above", TestKit.point(x, 1, 3), 0);

        edge(6, "4 ODD sets that have it, as bits each.");
        int[] sets = {0b01, 0b11, 0b11, 0b10, 0};
        for (int p = 0; p < 5; p++) {
            due("sets of " + p, TestKit.point(x, p, 4), sets[p]);
        }
        HeavyPairs y = TestKit.of(TEN + "odd 0 a b c;odd 0 a b d;odd 0 a b e;odd 0 a b f;odd 0 a b g;odd 0 a b h;");
        due("in six", TestKit.point(y, 0, 4), 0b111111);
        due("in the last", TestKit.point(y, 7, 4), 0b100000);

        edge(6, "NoSuchElementException: no such ones.");
        for (int bad : new int[] {-1, 5, 10, LEAST, MOST}) {
            due("point " + bad, TestKit.point(x, bad, 0), THROWS);
            due("point and what " + bad, TestKit.point(x, bad, bad), THROWS);
            due("what " + bad, TestKit.point(x, 0, bad), THROWS);
        }
        due("the last of each", TestKit.point(x, 4, 4), 0);
    }

    private static void link() {
        HeavyPairs x = TestKit.of(ABCD + "link c a 3;link b a 4;link c b 4;link b d 1;pair a c;");
        edge(7, "Of a LINK: 0, 1 its POINTS");
        int[] firsts = {2, 1, 2, 1};
        int[] seconds = {0, 0, 1, 3};
        for (int l = 0; l < 4; l++) {
            due("first of " + l, x.link(l, 0), firsts[l]);
            due("second of " + l, x.link(l, 1), seconds[l]);
        }

        edge(7, "2 its WEIGHT");
        due("of the first", x.link(0, 2), 3);
        due("of the last", x.link(3, 2), 1);

        edge(7, "3 whether it is of a pair (1, 0)");
        due("it is", x.link(0, 3), 1);
        due("it is not", x.link(1, 3), 0);
        x.part(2);
        due("it is not any more", x.link(0, 3), 0);
        x.pair(1, 0);
        due("another is", x.link(1, 3), 1);

        edge(7, "4 FATE.");
        // a c and b d make 4, as do a b and b c by themselves
        int[] fates = {1, 1, 1, 1};
        for (int l = 0; l < 4; l++) {
            due("fate of " + l, x.link(l, 4), fates[l]);
        }
        x.weigh(1, 3, 2);
        due("in all", x.link(0, 4), 2);
        due("in none", x.link(1, 4), 0);
        due("in none", x.link(2, 4), 0);
        due("in all", x.link(3, 4), 2);

        edge(7, "NONE: no such ones.");
        for (int bad : new int[] {-1, 5, 30, LEAST, MOST}) {
            due("link " + bad, x.link(bad, 0), -1);
            due("fate of link " + bad, x.link(bad, 4), -1);
            due("what " + bad, x.link(0, bad), -1);
        }
        due("one behind the last", x.link(4, 4), -1);
    }

    private static void slackAndOdd() {
        HeavyPairs x = TestKit.of(SMALL);
        edge(8, "SLACK of a LINK.");
        int[] slacks = {2, -5, -10, -5};
        for (int l = 0; l < 4; l++) {
            due("slack of " + l, TestKit.slack(x, l), slacks[l]);
        }
        x.crown(1, 3);
        x.price(2, 1);
        int[] then = {2, -1, -6, -4};
        for (int l = 0; l < 4; l++) {
            due("slack of " + l, TestKit.slack(x, l), then[l]);
        }

        edge(8, "NoSuchElementException: no such one.");
        for (int bad : new int[] {-1, 4, 30, LEAST, MOST}) {
            due("slack of " + bad, TestKit.slack(x, bad), THROWS);
        }
        due("without links", TestKit.slack(new HeavyPairs(), 0), THROWS);

        edge(9, "Of an ODD set: 0 its POINTS, as bits, 1 its price");
        x = TestKit.of(SMALL);
        due("the first", x.odd(0, 0), 0b0111);
        due("the first", x.odd(0, 1), 2);
        due("the second", x.odd(1, 0), 0b1110);
        due("the second", x.odd(1, 1), 0);
        due("the last of ten", TestKit.of(TEN + "odd 0 j i h g f e d c b;").odd(0, 0), 0b1111111110);

        edge(9, "2 how many pairs are within it.");
        due("one in both", x.odd(0, 2) + x.odd(1, 2), 2);
        x.part(1);
        due("none", x.odd(0, 2), 0);
        x.pair(2, 3);
        due("half in one", x.odd(0, 2), 0);
        due("in the other", x.odd(1, 2), 1);
        due("four", TestKit.of(ringOf(9) + "odd 0 a b c d e f g h i;").odd(0, 2), 4);

        edge(9, "NONE: no such ones.");
        for (int bad : new int[] {-1, 3, 6, LEAST, MOST}) {
            due("set " + bad, x.odd(bad, 0), -1);
            due("what " + bad, x.odd(0, bad), -1);
        }
        due("one behind the last", x.odd(2, 2), -1);
    }

    private static void now() {
        HeavyPairs x = TestKit.of(SMALL);
        edge(10, "0 TOTAL, 1 pairs, 2 lone POINTS, as bits");
        due("total", x.now(0), 4);
        due("pairs", x.now(1), 1);
        due("lone", x.now(2), 0b11001);
        x.part(1);
        due("total of none", x.now(0), 0);
        due("no pairs", x.now(1), 0);
        due("all are lone", x.now(2), 0b11111);
        x.pair(0, 1);
        x.pair(2, 3);
        due("total of two", x.now(0), 8);
        due("two", x.now(1), 2);
        due("one is lone", x.now(2), 0b10000);
        due("ten are lone", TestKit.of(TEN).now(2), 0b1111111111);

        edge(10, "3 TIGHT LINKS, as bits");
        due("none", x.now(3), 0);
        x.price(0, 3);
        due("the first", x.now(3), 1);
        HeavyPairs y = TestKit.of(TEN + TextKit.linksText(30) + "price a 2;");
        due("those at a", y.now(3), (1 << 9) - 1);
        for (int p = 0; p < 10; p++) {
            y.price(p, 1);
        }
        due("all thirty", y.now(3), (1 << 30) - 1);

        edge(10, "4 BOUND");
        due("3 and 1 and 2", x.now(4), 6);

        edge(10, "5 PATHS turned so far");
        x = TestKit.of(SMALL);
        due("none", x.now(5), 0);
        x.grow(0);
        due("found is not turned", x.now(5), 0);
        x.turn();
        due("one", x.now(5), 1);
        x.turn();
        due("refused", x.now(5), 1);
        x.part(0);
        x.grow(0);
        x.turn();
        due("two", x.now(5), 2);

        edge(10, "6 FLOWERS shrunk so far.");
        x = TestKit.of(ringOf(3));
        due("none", x.now(6), 0);
        x.flower(0);
        due("found is not shrunk", x.now(6), 0);
        x.shrink();
        due("one", x.now(6), 1);
        x.shrink();
        due("refused", x.now(6), 1);
        x.open(0);
        due("opened", x.now(6), 1);
        x.shrink();
        due("two", x.now(6), 2);

        edge(10, "NONE for another what.");
        for (int bad : new int[] {-1, 7, 8, LEAST, MOST}) {
            due("what " + bad, x.now(bad), -1);
        }
    }

    private static void pairAndPart() {
        HeavyPairs x = TestKit.of(SMALL);
        edge(11, "Two POINTS PAIR: 0, or why not");
        due("not linked", x.pair(0, 4), 1);
        due("one is paired", x.pair(3, 2), 2);
        due("nothing was done", x.undo(), -1);
        x.part(1);
        due("done", x.pair(0, 2), 0);
        due("done", x.now(0), 6);

        edge(11, "NONE: alike, no such ones.");
        for (int p = 0; p < 5; p++) {
            due("alike " + p, x.pair(p, p), -1);
        }
        for (int bad : new int[] {-1, 5, 10, LEAST, MOST}) {
            due("first " + bad, x.pair(bad, 0), -1);
            due("second " + bad, x.pair(0, bad), -1);
            due("both " + bad, x.pair(bad, bad), -1);
        }
        due("all stays", x.now(0), 6);

        edge(12, "A POINT is PARTED: 0, or why not");
        due("lone", x.part(1), 1);
        due("done", x.part(0), 0);
        due("done", x.now(1), 0);
        due("lone now", x.part(0), 1);

        edge(12, "NONE: no such one.");
        for (int bad : new int[] {-1, 5, 10, LEAST, MOST}) {
            due("point " + bad, x.part(bad), -1);
        }
    }

    private static void weigh() {
        HeavyPairs x = TestKit.of(SMALL);
        edge(13, "The LINK of two is WEIGHED (1 to 99): 0, or why not");
        due("the least", x.weigh(0, 1, 1), 0);
        due("it is", x.link(0, 2), 1);
        due("the greatest", x.weigh(0, 1, 99), 0);
        due("it is", x.link(0, 2), 99);
        due("not linked", x.weigh(0, 4, 5), 1);
        due("that is it", x.weigh(1, 0, 99), 2);
        due("others stay", x.link(1, 2), 4);
        due("of a pair", x.weigh(2, 1, 50), 0);
        due("total", x.now(0), 50);

        // linked in another network: not any more, or by another number
        HeavyPairs y = TestKit.of(ABCD + "link a b 5;link b c 6;link c d 7;");
        TestKit.network(y, ABCD + "link c d 8;link a c 9;");
        due("linked in the one ahead", y.weigh(0, 1, 5), 1);
        due("linked in the one ahead", y.weigh(2, 1, 50), 1);
        due("nothing was weighed", y.link(0, 2) * 100 + y.link(1, 2), 809);
        due("the first now", y.weigh(3, 2, 1), 0);
        due("the first now", y.link(0, 2), 1);
        due("that is it", y.weigh(0, 2, 9), 2);

        edge(13, "NONE: alike, no such ones.");
        for (int bad : new int[] {-1, 5, 10, LEAST, MOST}) {
            due("first " + bad, x.weigh(bad, 0, 5), -1);
            due("second " + bad, x.weigh(0, bad, 5), -1);
        }
        for (int bad : new int[] {-1, 0, 100, LEAST, MOST}) {
            due("weight " + bad, x.weigh(0, 1, bad), -1);
            due("weight of none linked " + bad, x.weigh(0, 4, bad), -1);
        }
        for (int p = 0; p < 5; p++) {
            due("alike " + p, x.weigh(p, p, 5), -1);
        }
        due("it stays", x.link(0, 2), 99);
    }

    private static void priceAndCrown() {
        HeavyPairs x = TestKit.of(SMALL);
        edge(14, "A POINT is PRICED (0 to 400): 0, or why not");
        due("the greatest", x.price(4, 400), 0);
        due("it is", TestKit.point(x, 4, 1), 400);
        due("that is it", x.price(4, 400), 1);
        due("the least", x.price(4, 0), 0);
        due("it is", TestKit.point(x, 4, 1), 0);
        due("that is it", x.price(4, 0), 1);

        edge(14, "NONE: no such ones.");
        for (int bad : new int[] {-1, 5, 10, LEAST, MOST}) {
            due("point " + bad, x.price(bad, 1), -1);
        }
        for (int bad : new int[] {-1, 401, LEAST, MOST}) {
            due("price " + bad, x.price(0, bad), -1);
        }
        due("it stays", TestKit.point(x, 0, 1), 5);

        edge(15, "An ODD set is CROWNED (0 to 400): 0, or why not");
        due("the greatest", x.crown(1, 400), 0);
        due("it is", x.odd(1, 1), 400);
        due("that is it", x.crown(1, 400), 1);
        due("the least", x.crown(1, 0), 0);
        due("it is", x.odd(1, 1), 0);
        due("that is it", x.crown(1, 0), 1);

        edge(15, "NONE: no such ones.");
        for (int bad : new int[] {-1, 2, 6, LEAST, MOST}) {
            due("set " + bad, x.crown(bad, 1), -1);
        }
        for (int bad : new int[] {-1, 401, LEAST, MOST}) {
            due("price " + bad, x.crown(0, bad), -1);
        }
        due("it stays", x.odd(0, 1), 2);
    }

    private static void open() {
        HeavyPairs x = TestKit.of(SMALL);
        edge(16, "An ODD set is OPENED: 0, or why not");
        due("priced", x.open(0), 1);
        due("nothing was done", x.undo(), -1);
        due("not priced", x.open(1), 0);
        x.crown(0, 0);
        due("not priced any more", x.open(0), 0);
        due("none are left", x.count(2), 0);

        edge(16, "NONE: no such one.");
        for (int bad : new int[] {-1, 0, 6, LEAST, MOST}) {
            due("set " + bad, x.open(bad), -1);
        }
        x.undo();
        due("one behind the last", x.open(1), -1);
    }

    private static void grow() {
        HeavyPairs x = TestKit.of(ROW);
        edge(17, "PATH of a POINT: how many LINKS");
        due("five", x.grow(0), 5);
        due("five", x.grow(5), 5);
        x.part(3);
        due("three", x.grow(0), 3);
        x.part(1);
        due("one", x.grow(2), 1);
        due("nothing changes", x.now(1), 0);

        edge(17, "NONE: there is none, it is not lone, no such one.");
        x = TestKit.of(ROW + "price a 1;");
        due("not lone", x.grow(1), -1);
        for (int bad : new int[] {-1, 6, 10, LEAST, MOST}) {
            due("point " + bad, x.grow(bad), -1);
        }
        TestKit.network(x, SMALL);
        due("there is none", x.grow(4), -1);

        edge(18, "The k-th POINT of it (from 0), by the latest grow() that was not NONE");
        x = TestKit.of(ROW);
        x.grow(5);
        for (int k = 0; k < 6; k++) {
            due("point " + k, x.growAt(k), 5 - k);
        }
        x.grow(1);
        due("NONE leaves it", x.growAt(0), 5);
        x.part(1);
        due("deeds leave it", x.growAt(5), 0);
        x.grow(0);
        due("a shorter one", x.growAt(1), 1);
        due("nothing of the longer one", x.growAt(2), -1);

        edge(18, "NONE: none such, or ahead of any.");
        due("below", x.growAt(-1), -1);
        due("behind", x.growAt(2), -1);
        due("far below", x.growAt(LEAST), -1);
        due("far behind", x.growAt(MOST), -1);
        due("ahead of any", new HeavyPairs().growAt(0), -1);
        x = TestKit.of(ROW);
        x.grow(1);
        due("behind NONE alone", x.growAt(0), -1);
    }

    private static void turn() {
        edge(19, "The PATH of the latest grow() that was not NONE is TURNED: 0, or why not.");
        HeavyPairs x = TestKit.of(ROW);
        due("ahead of any", x.turn(), 1);
        x.grow(1);
        due("behind NONE alone", x.turn(), 1);
        x.grow(0);
        x.grow(9);
        due("NONE leaves it", x.turn(), 0);
        due("turned", x.now(0), 12);
        due("once", x.turn(), 1);
        x.undo();
        due("again behind undo", x.turn(), 0);
        x = TestKit.of(ABCDEF + "link a b 1;link c d 1;link e f 1;");
        x.grow(0);
        x.grow(2);
        due("the latest", x.turn(), 0);
        due("the latest", x.now(2), 0b110011);
    }

    private static void flower() {
        edge(20, "FLOWER of a POINT: how many POINTS");
        HeavyPairs x = TestKit.of(ringOf(9));
        due("nine", x.flower(0), 9);
        due("three", TestKit.of(ringOf(3)).flower(0), 3);
        due("nothing changes", x.count(2), 0);

        edge(20, "NONE: there is none, no such one.");
        due("there is none", x.flower(1), -1);
        due("there is none", x.flower(9), -1);
        for (int bad : new int[] {-1, 10, 11, LEAST, MOST}) {
            due("point " + bad, x.flower(bad), -1);
        }

        edge(21, "The k-th POINT of it (from 0), by the latest flower() that was not NONE");
        for (int k = 0; k < 9; k++) {
            due("point " + k, x.flowerAt(k), k);
        }
        x.part(1);
        due("deeds leave it", x.flowerAt(8), 8);
        TestKit.network(x, ringOf(3));
        x.flower(0);
        due("a smaller one", x.flowerAt(2), 2);
        due("nothing of the greater one", x.flowerAt(3), -1);
        x.grow(0);
        due("grow() leaves it", x.flowerAt(2), 2);

        edge(21, "NONE: none such, or ahead of any.");
        due("below", x.flowerAt(-1), -1);
        due("behind", x.flowerAt(3), -1);
        due("far below", x.flowerAt(LEAST), -1);
        due("far behind", x.flowerAt(MOST), -1);
        due("ahead of any", new HeavyPairs().flowerAt(0), -1);
        x = TestKit.of(ringOf(3));
        x.flower(1);
        due("behind NONE alone", x.flowerAt(0), -1);
    }

    private static void shrink() {
        edge(22, "The FLOWER of the latest flower() that was not NONE is SHRUNK: 0, or why not.");
        HeavyPairs x = TestKit.of(ringOf(5));
        due("ahead of any", x.shrink(), 1);
        x.flower(1);
        due("behind NONE alone", x.shrink(), 1);
        x.flower(0);
        x.flower(9);
        due("NONE leaves it", x.shrink(), 0);
        due("shrunk", x.odd(0, 0), 0b11111);
        due("once", x.shrink(), 2);
        x.undo();
        due("none", x.count(2), 0);
        due("again behind undo", x.shrink(), 0);
        x = TestKit.of(ABCDEF + "link a b 1;link b c 1;link c a 1;link c d 1;link d e 1;link e f 1;link f d 1;pair b c;pair e f;");
        x.flower(0);
        x.flower(3);
        due("the latest", x.shrink(), 0);
        due("the latest", x.odd(0, 0), 0b111000);
    }

    private static void undone(String deed, HeavyPairs x, String ahead) {
        due(deed + " is undone", x.undo(), 0);
        due(deed + " leaves all as it was", TestKit.state(x).equals(ahead), true);
        due("none behind " + deed, x.undo(), -1);
    }

    private static void undoOfDeeds() {
        HeavyPairs x = TestKit.of(ABCD + "link a b 3;link b c 4;link c a 5;link c d 6;pair b c;odd 2 a b d;odd 0 b c d;");
        String ahead = TestKit.state(x);
        edge(23, "The latest of pair(), part(), weigh(), price(), crown(), open(), turn(), shrink() that was done");
        HeavyPairs lone = TestKit.of(ABCD + "link a b 3;");
        String loneAhead = TestKit.state(lone);
        lone.pair(0, 1);
        undone("pair", lone, loneAhead);
        x.part(1);
        undone("part", x, ahead);
        x.weigh(0, 1, 99);
        undone("weigh", x, ahead);
        x.price(0, 9);
        undone("price", x, ahead);
        x.crown(0, 9);
        undone("crown", x, ahead);
        x.open(1);
        undone("open", x, ahead);
        HeavyPairs y = TestKit.of(ABCD + "link a b 3;link b c 4;link c a 5;link c d 6;pair b c;odd 2 a b d;odd 0 b c d;");
        y.grow(0);
        y.turn();
        undone("turn", y, ahead);
        y.flower(0);
        y.shrink();
        undone("shrink", y, ahead);
        // what was not done does not count
        y.pair(0, 1);
        y.pair(0, 0);
        y.pair(0, 9);
        y.part(0);
        y.part(9);
        y.weigh(0, 1, 3);
        y.weigh(0, 1, 100);
        y.weigh(0, 3, 1);
        y.price(0, 0);
        y.price(0, 401);
        y.crown(0, 2);
        y.crown(9, 2);
        y.open(0);
        y.open(9);
        y.part(1);
        y.turn();
        y.shrink();
        due("the latest that was done", y.undo(), 0);
        due("part() is undone", TestKit.state(y).equals(ahead), true);
        due("nothing else was done", y.undo(), -1);
    }

    /** So many deeds ahead of the one to undo that every place where they are kept was used. */
    private static HeavyPairs behindDeeds(String text) {
        HeavyPairs x = TestKit.of(text);
        for (int n = 1; n <= 11; n++) {
            x.price(3, n);
        }
        return x;
    }

    private static void undoneAlone(String deed, HeavyPairs x, int answer, String ahead) {
        due(deed + " is done", answer, 0);
        due(deed + " changes something", TestKit.state(x).equals(ahead), false);
        due(deed + " is undone", x.undo(), 7);
        due(deed + " alone is undone", TestKit.state(x).equals(ahead), true);
        due("the deed ahead of " + deed, x.undo(), 6);
        due("the deed ahead of " + deed, TestKit.point(x, 3, 1), 10);
    }

    private static void undoBehindDeeds() {
        String text = ABCD + "link a b 3;link b c 4;link c a 5;link c d 6;pair b c;odd 2 a b d;odd 0 b c d;";
        edge(23, "The latest of pair(), part(), weigh(), price(), crown(), open(), turn(), shrink() that was done");
        HeavyPairs x = behindDeeds(ABCD + "link a b 3;");
        undoneAlone("pair", x, x.pair(0, 1), TestKit.state(behindDeeds(ABCD + "link a b 3;")));
        String ahead = TestKit.state(behindDeeds(text));
        x = behindDeeds(text);
        undoneAlone("part", x, x.part(1), ahead);
        x = behindDeeds(text);
        undoneAlone("weigh", x, x.weigh(0, 1, 99), ahead);
        x = behindDeeds(text);
        undoneAlone("price", x, x.price(0, 9), ahead);
        x = behindDeeds(text);
        undoneAlone("crown", x, x.crown(0, 9), ahead);
        x = behindDeeds(text);
        undoneAlone("open", x, x.open(1), ahead);
        x = behindDeeds(text);
        x.grow(0);
        undoneAlone("turn", x, x.turn(), ahead);
        x = behindDeeds(text);
        x.flower(0);
        undoneAlone("shrink", x, x.shrink(), ahead);
        x = behindDeeds(text);
        undoneAlone("drawn", x, x.drawn(60, 4) > 0 ? 0 : -1, ahead);
        x = behindDeeds(text);
        undoneAlone("book", x, TestKit.book(x, "part b;price a 7;crown 0 0;", 1) == -1 ? 0 : -1, ahead);
    }

    /** A refused deed takes no place from those that are kept, when all places are full. */
    private static void undoKeptBehindRefused() {
        edge(23, "how many more can be (8 at most are kept)");
        for (int kind = 0; kind <= 10; kind++) {
            HeavyPairs x = TestKit.of(SMALL);
            for (int n = 1; n <= 8; n++) {
                x.price(4, n);
            }
            refuse(x, kind);
            for (int n = 7; n >= 0; n--) {
                due("refused " + kind + ": undo", x.undo(), n);
                due("refused " + kind + ": price", TestKit.point(x, 4, 1), n);
            }
            due("refused " + kind + ": no more", x.undo(), -1);
            due("refused " + kind + ": as told", TestKit.state(x).equals(TestKit.state(TestKit.of(SMALL))), true);
        }
    }

    private static void refuse(HeavyPairs x, int kind) {
        int[] answers = {x.pair(0, 1), x.part(0), x.weigh(0, 1, 3), x.price(0, 5), x.crown(0, 2), x.open(0), x.turn(), x.shrink()};
        int[] due = {2, 1, 2, 1, 1, 1, 1, 1};
        if (kind < 8) {
            due("refused " + kind, answers[kind], due[kind]);
        } else if (kind == 8) {
            due("a book that is wrong at once", TestKit.book(x, "part a;", 1), 0);
        } else if (kind == 9) {
            due("a book that is judged", TestKit.book(x, "part b;price a 1;", 0), -1);
        } else {
            int seed = 0;
            while (TestKit.of(SMALL).drawn(1, seed) != 0) {
                seed++;
            }
            due("drawn, nothing done", x.drawn(1, seed), 0);
            x.odds(0, 20, 5);
        }
    }

    private static void undoOfMany() {
        edge(23, "drawn() above 0 (not one that did nothing)");
        HeavyPairs x = TestKit.of(SMALL);
        String ahead = TestKit.state(x);
        int seed = 0;
        while (x.drawn(1, seed) != 0) {
            x.undo();
            seed++;
        }
        due("one that did nothing", x.undo(), -1);
        due("sixty", x.drawn(60, 11) > 0, true);
        undone("drawn", x, ahead);
        due("no points: nothing is done", new HeavyPairs().drawn(60, 1), 0);
        HeavyPairs empty = new HeavyPairs();
        empty.drawn(60, 1);
        due("no points: nothing is undone", empty.undo(), -1);
        due("not as told", x.drawn(61, 1), -1);
        due("nothing is undone", x.undo(), -1);

        edge(23, "a BOOK of which some LINE was lived is undone");
        x = TestKit.of(SMALL);
        TestKit.book(x, "price a 9;part b;crown 1 3;grow a;", 1);
        undone("a whole book", x, ahead);
        TestKit.book(x, "part b;part b;price a 9;", 1);
        undone("one line", x, ahead);
        TestKit.book(x, "part a;part b;", 1);
        due("no line", x.undo(), -1);
        TestKit.book(x, "", 1);
        due("no lines at all", x.undo(), -1);
        TestKit.book(x, "part b;", 0);
        due("judged alone", x.undo(), -1);
        TestKit.book(x, "part b;part", 1);
        due("a fault", x.undo(), -1);
    }

    private static void undoKept() {
        edge(23, "how many more can be (8 at most are kept)");
        for (int deeds = 1; deeds <= 30; deeds++) {
            HeavyPairs x = TestKit.of(SMALL);
            for (int n = 1; n <= deeds; n++) {
                x.price(4, n);
            }
            int kept = Math.min(8, deeds);
            for (int n = 1; n <= kept; n++) {
                due(n + " of " + deeds, x.undo(), kept - n);
                due("price behind " + n + " of " + deeds, TestKit.point(x, 4, 1), deeds - n);
            }
            due("no more of " + deeds, x.undo(), -1);
            due("it stays", TestKit.point(x, 4, 1), deeds - kept);
        }
        HeavyPairs x = TestKit.of(SMALL);
        for (int n = 1; n <= 12; n++) {
            x.price(4, n);
        }
        x.undo();
        x.undo();
        x.price(4, 50);
        due("a deed behind undo", x.undo(), 6);
        due("the deed ahead of it", TestKit.point(x, 4, 1), 10);

        edge(23, "NONE: none is.");
        due("ahead of any", new HeavyPairs().undo(), -1);
        x = TestKit.of(SMALL);
        due("behind a network", x.undo(), -1);
        x.price(0, 9);
        TestKit.network(x, SMALL);
        due("behind another network", x.undo(), -1);
        x.price(0, 9);
        x.image(0);
        x.restore(0);
        due("behind restore", x.undo(), -1);
    }
}
