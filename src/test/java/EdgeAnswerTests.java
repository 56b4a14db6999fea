/** Edges of proofs, heaviest pairings, means, tags and draws (promises 24 to 40): each begins with the words that it tests. */
public final class EdgeAnswerTests {
    private static final int ASKED = EdgeKit.ASKED;
    private static final int THROWS = TestKit.THROWS;
    private static final int LEAST = Integer.MIN_VALUE;
    private static final int MOST = Integer.MAX_VALUE;

    private static final String ABC = TextKit.ABC;
    private static final String ABCD = TextKit.pointsText(4);
    private static final String ABCDEF = TextKit.pointsText(6);
    private static final String TEN = TextKit.pointsText(10);
    private static final String RING = ABC + "link a b 2;link b c 2;link c a 2;";
    private static final String FIVE = TextKit.pointsText(5)
            + "link a b 5;link b c 8;link c a 6;link c d 7;link d e 4;link a e 3;"
            + "pair b c;price a 6;odd 2 a b c;odd 0 a b c d e;";
    /** Slack by slack 0: the prices prove the pairing of a and b, c and d. */
    private static final String PROVEN = ABCD + "link a b 3;link c d 5;link b c 1;pair c d;pair a b;"
            + "price a 3;price b 3;price c 5;price d 5;";

    public static void main(String[] args) {
        EdgeKit.tests(ASKED, 24, 25, 26, 27, 28, 29, 30, 31, 32, 33, 34, 35, 36, 37, 38, 39, 40);
        proofTerms();
        bounds();
        bestTerms();
        otherTotals();
        mostLinks();
        fates();
        roomTerms();
        gainRows();
        gainRowsOfUnlike();
        gainEnds();
        whoTerms();
        askTerms();
        meansAndTags();
        drawTerms();
        drawnDeeds();
        drawnAlike();
        lastTerms();
        proof();
        proofAt();
        proofBy();
        room();
        best();
        nextHeavyWays();
        gain();
        who();
        ask();
        mean();
        tag();
        drawn();
        odds();
        EdgeKit.finish("EdgeAnswerTests");
    }

    private static void edge(int section, String quote) {
        EdgeKit.edge(section, quote);
    }

    private static void due(String call, long got, long want) {
        EdgeKit.due(call, got, want);
    }

    private static void due(String call, boolean got, boolean want) {
        EdgeKit.due(call, got, want);
    }

    private static void flaw(HeavyPairs x, int kind, int at, int by) {
        due("proof", x.proof(), kind);
        due("at", x.proofAt(), at);
        due("by", TestKit.proofBy(x), by);
    }

    private static void proofTerms() {
        edge(ASKED, "PROOF, the first of these: 0 PRICES prove that the pairing is heaviest");
        HeavyPairs x = TestKit.of(PROVEN);
        flaw(x, 0, -1, THROWS);
        due("it is heaviest", x.now(0), x.best());
        flaw(new HeavyPairs(), 0, -1, THROWS);
        flaw(TestKit.of(ABCD), 0, -1, THROWS);
        // a set that is full, a set priced 0 that is not, a lone point priced 0
        flaw(TestKit.of(RING + "pair a b;odd 4 a b c;"), 0, -1, THROWS);
        flaw(TestKit.of(ABCD + "odd 0 a b c;"), 0, -1, THROWS);

        edge(ASKED, "1 a LINK has a SLACK below 0");
        x.price(1, 2);
        flaw(x, 1, 0, -1);
        x.price(1, 0);
        x.price(2, 0);
        x.price(0, 8);
        flaw(x, 1, 1, -5);
        // ahead of a pair that is not tight, though its link comes first, of a lone point and of a set
        flaw(TestKit.of(PROVEN + "odd 1 a b c;point e;link e d 2;price e 0;link a e 9;"), 1, 4, -15);
        flaw(TestKit.of(ABCD + "link c d 4;price a 3;odd 3 a b c;"), 1, 0, -8);

        edge(ASKED, "2 the LINK of a pair is not TIGHT");
        x = TestKit.of(PROVEN);
        x.price(0, 4);
        flaw(x, 2, 0, 1);
        x.price(0, 3);
        x.price(3, 7);
        flaw(x, 2, 1, 2);
        // a link that is of no pair need not be tight; ahead of a lone point and of a set
        due("b and c are not tight", TestKit.slack(x, 2), 6);
        flaw(TestKit.of("point z;price z 9;point y;point x;point w;odd 5 z y x;link x w 1;price w 3;pair x w;"), 2, 0, 1);

        edge(ASKED, "3 a lone POINT has a price above 0");
        flaw(TestKit.of(ABCD + "price c 1;price d 7;"), 3, 2, 1);
        flaw(TestKit.of(PROVEN + "point e;price e 400;odd 1 a c e;"), 3, 4, 400);
        x = TestKit.of(PROVEN);
        x.part(2);
        flaw(x, 3, 2, 5);

        edge(ASKED, "4 an ODD set has a price above 0, and fewer pairs within than its POINTS less 1 by 2.");
        flaw(TestKit.of(ABCD + "odd 1 a b c;"), 4, 0, 1);
        // full, not full, full: 3, 3 and 5 points
        String five = TextKit.pointsText(5) + "link a b 10;link c d 10;pair a b;pair c d;price a 8;price c 9;"
                + "odd 1 a b e;odd 0 a c e;odd 11 a b c d e;odd 0 b c d;";
        flaw(TestKit.of(five), 0, -1, THROWS);
        x = TestKit.of(five);
        x.crown(1, 7);
        flaw(x, 4, 1, 7);
        x = TestKit.of(five);
        x.crown(3, 1);
        due("that loosens a pair", x.proof(), 2);
        // one pair in a set of five is too few
        x = TestKit.of(TextKit.pointsText(5) + "link a b 2;pair a b;odd 4 a b c d e;");
        flaw(x, 4, 0, 4);
        x = TestKit.of(TextKit.pointsText(5) + "link a b 2;pair a b;odd 4 a b c;");
        flaw(x, 0, -1, THROWS);
    }

    private static void bounds() {
        edge(ASKED, "BOUND: prices of all POINTS, and of ODD sets by their POINTS less 1 by 2 each, in HALVES.");
        due("nothing", new HeavyPairs().now(4), 0);
        due("points", TestKit.of(ABCD + "price a 1;price d 20;").now(4), 21);
        due("three", TestKit.of(TEN + "odd 1 a b c;").now(4), 1);
        due("five", TestKit.of(TEN + "odd 1 a b c d e;").now(4), 2);
        due("seven", TestKit.of(TEN + "odd 1 a b c d e f g;").now(4), 3);
        due("nine", TestKit.of(TEN + "odd 1 a b c d e f g h i;").now(4), 4);
        due("all", TestKit.of(TEN + "price j 100;odd 1 a b c;odd 10 a b c d e;").now(4), 121);
        HeavyPairs x = TestKit.of(PROVEN);
        due("twice the total", x.now(4), 2 * x.now(0));
    }

    private static void partners(HeavyPairs x, int total, int... partners) {
        due("total", x.best(), total);
        for (int p = 0; p < partners.length; p++) {
            due("partner of " + p, x.bestOf(p), partners[p]);
        }
    }

    private static HeavyPairs another(HeavyPairs x, String text) {
        TestKit.network(x, text);
        return x;
    }

    private static void bestTerms() {
        edge(ASKED, "BEST: the pairing of the greatest TOTAL (of LINKS as they are)");
        HeavyPairs x = TestKit.of(ABCD + "link a b 3;link b c 7;link c d 3;");
        partners(x, 7, -1, 2, 1, -1);
        x.weigh(0, 1, 5);
        partners(x, 8, 1, 0, 3, 2);
        x.undo();
        partners(x, 7, -1, 2, 1, -1);
        x.pair(0, 1);
        x.price(0, 400);
        partners(x, 7, -1, 2, 1, -1);

        // networks that are nearly alike, one behind another
        partners(another(x, ABCD + "link a b 9;link c d 4;"), 13, 1, 0, 3, 2);
        partners(another(x, ABCD + "link a b 9;link b d 4;"), 9, 1, 0, -1, -1);
        partners(another(x, ABCD + "link a b 9;link b c 4;"), 9, 1, 0, -1, -1);
        partners(another(x, ABCD + "link a b 9;link c d 4;"), 13, 1, 0, 3, 2);
        partners(another(x, ABCD + "link a b 9;link c b 4;"), 9, 1, 0, -1, -1);
        partners(another(x, ABCD + "link c d 9;link a b 4;"), 13, 1, 0, 3, 2);
        partners(another(x, ABCD + "link c d 9;"), 9, -1, -1, 3, 2);
        partners(another(x, ABCD), 0, -1, -1, -1, -1);
        partners(another(x, TEN + "link c d 9;"), 9, -1, -1, 3, 2, -1, -1, -1, -1, -1, -1);

        // one LINK alone, of which one thing is another each time
        partners(another(x, ABC + "link a c 3;"), 3, 2, -1, 0);
        partners(another(x, ABC + "link b c 3;"), 3, -1, 2, 1);
        partners(another(x, ABC + "link b a 3;"), 3, 1, 0, -1);
        partners(another(x, ABC + "link b a 4;"), 4, 1, 0, -1);
        x.weigh(0, 1, 24);
        partners(x, 24, 1, 0, -1);
        due("next of it", x.next(), 0);
        x.undo();
        partners(x, 4, 1, 0, -1);

        edge(ASKED, "of like ones the first: POINT by POINT the least partner");
        partners(TestKit.of(ABCD + "link a d 1;link b c 1;link a b 1;link c d 1;"), 2, 1, 0, 3, 2);
        // a with c in all; b with e, d with f or b with f, d with e
        partners(TestKit.of(ABCDEF + "link a c 9;link b f 1;link d e 1;link b e 1;link d f 1;"), 11, 2, 4, 0, 5, 1, 3);
        // one heavy link or two light ones: what counts is the partner of a, then that of b
        partners(TestKit.of(ABCD + "link a c 3;link b c 6;link a d 3;link c d 4;link a b 2;"), 9, 3, 2, 1, 0);
        partners(TestKit.of(ABCD + "link a b 3;link c d 3;link a c 6;"), 6, 1, 0, 3, 2);

        edge(ASKED, "(lone is behind all).");
        partners(TestKit.of(RING), 2, 1, 0, -1);
        partners(TestKit.of(TEN + "link b c 5;link a j 5;link b j 5;link c a 5;"), 10, 2, 9, 0, -1);
        partners(TestKit.of(TEN + "link i j 4;link a j 4;"), 4, 9, -1, -1, -1, -1, -1, -1, -1, -1, 0);
        partners(TestKit.of(ABC + "link b c 4;link a c 4;"), 4, 2, -1, 0);
        partners(TestKit.of(ABCD + "link b c 8;link a b 4;link c d 4;"), 8, 1, 0, 3, 2);
    }

    /** Five POINTS, each linked to each of five others. */
    private static String fiveByFive(int weight) {
        StringBuilder text = new StringBuilder(TEN);
        for (char p = 'a'; p < 'f'; p++) {
            for (char q = 'f'; q < 'k'; q++) {
                text.append("link ").append(p).append(' ').append(q).append(' ').append(weight).append(';');
            }
        }
        return text.toString();
    }

    private static void otherTotals() {
        edge(ASKED, "NEXT: the greatest TOTAL below that.");
        due("of like ones one is not below", TestKit.of(RING).next(), 0);
        due("one less", TestKit.of(ABCD + "link a b 5;link b c 4;").next(), 4);
        due("a pair fewer", TestKit.of(ABCD + "link a b 5;link c d 4;").next(), 5);
        due("none", TestKit.of(ABCD).next(), -1);
        due("the empty pairing", TestKit.of(ABCD + "link a b 99;").next(), 0);
        due("of five pairs", TestKit.of(fiveByFive(99)).next(), 4 * 99);
        // 3 and 4, 5, 3 alone: 7, then 5
        due("by another pair", TestKit.of(ABCDEF + "link a b 3;link c d 4;link b c 5;").next(), 5);

        edge(ASKED, "HEAVY of k: the greatest TOTAL of just k pairs.");
        HeavyPairs x = TestKit.of(ABCD + "link a b 3;link b c 9;link c d 4;");
        due("none", x.heavy(0), 0);
        due("one", x.heavy(1), 9);
        due("two", x.heavy(2), 7);
        due("three", x.heavy(3), -1);
        x = TestKit.of(fiveByFive(99));
        for (int k = 0; k <= 5; k++) {
            due(k + " pairs", x.heavy(k), 99 * k);
        }
        due("six pairs", x.heavy(6), -1);

        edge(ASKED, "WAYS of k: how many pairings of k pairs there are.");
        int[] ways = {1, 25, 200, 600, 600, 120};
        for (int k = 0; k <= 5; k++) {
            due(k + " pairs", x.ways(k), ways[k]);
        }
        due("six pairs", x.ways(6), 0);
        x.pair(0, 5);
        x.weigh(0, 6, 1);
        for (int k = 0; k <= 5; k++) {
            due("pairs and weights are no matter: " + k, x.ways(k), ways[k]);
        }
        another(x, ABC);
        due("the empty one of another network", x.ways(0), 1);
        due("none of another network", x.ways(1), 0);
        due("of no links", TestKit.of(ABCD).ways(0), 1);
        due("of no links", TestKit.of(ABCD).ways(1), 0);
    }

    /** Thirty LINKS: the first four POINTS with one another and with the six behind them. */
    private static void mostLinks() {
        String text = TEN + TextKit.linksText(30);
        int[] ways = {1, 30, 255, 660, 360, 0, 0};
        HeavyPairs x = TestKit.of(text);
        edge(ASKED, "WAYS of k: how many pairings of k pairs there are.");
        for (int k = 0; k <= 6; k++) {
            due("thirty links: " + k + " pairs", x.ways(k), ways[k]);
        }
        edge(ASKED, "HEAVY of k: the greatest TOTAL of just k pairs.");
        for (int k = 0; k <= 6; k++) {
            due("thirty links: " + k + " pairs", x.heavy(k), k <= 4 ? k : -1);
        }
        edge(ASKED, "BEST: the pairing of the greatest TOTAL (of LINKS as they are)");
        partners(x, 4, 4, 5, 6, 7, 0, 1, 2, 3, -1, -1);
        edge(ASKED, "NEXT: the greatest TOTAL below that.");
        due("thirty links", x.next(), 3);
        edge(ASKED, "FATE of a LINK: 0 it is in no BEST pairing (of the greatest TOTAL), 1 in some, 2 in all.");
        for (int l = 0; l < 30; l++) {
            due("link " + l, x.link(l, 4), x.link(l, 1) < 4 ? 0 : 1);
        }
        edge(ASKED, "how many BEST pairings have all of this.");
        due("of 360, a with e", TestKit.who(x, 0, 4), 60);
        due("of 360, j is lone", TestKit.who(x, 9, 255), 120);
        edge(ASKED, "GAIN: by how much the TOTAL grows at most by one stroke");
        due("of no pair", x.gain(), 1);
    }

    private static void fatesOf(String text, int... fates) {
        TextKit.inAllOrders(4, text, (x, numbers) -> {
            for (int l = 0; l < fates.length; l++) {
                due(text + " link " + l + " in the order " + java.util.Arrays.toString(numbers), x.link(l, 4), fates[l]);
            }
        });
    }

    private static void fates() {
        edge(ASKED, "FATE of a LINK: 0 it is in no BEST pairing (of the greatest TOTAL), 1 in some, 2 in all.");
        HeavyPairs x = TestKit.of(ABCDEF + "link a b 3;link b c 3;link c a 3;link e f 1;link d f 1;link d e 3;link c d 1;");
        // one of a, b, c is left; d e; c d and e f are too light
        int[] fates = {1, 1, 1, 0, 0, 2, 0};
        for (int l = 0; l < 7; l++) {
            due("link " + l, x.link(l, 4), fates[l]);
        }
        x.weigh(4, 5, 3);
        // a b, c d, e f make 7
        int[] then = {2, 0, 0, 2, 0, 0, 2};
        for (int l = 0; l < 7; l++) {
            due("link then " + l, x.link(l, 4), then[l]);
        }
        due("the only one", TestKit.of(ABCD + "link a b 1;").link(0, 4), 2);
        // whichever numbers the POINTS have, and whichever is told first
        fatesOf("link b a 1;link a c 5;link c d 2;", 0, 2, 0);
        fatesOf("link a b 1;link c a 5;link d c 2;", 0, 2, 0);
        fatesOf("link b a 3;link a c 5;link c d 2;", 1, 1, 1);
        fatesOf("link a b 3;link c a 5;link d c 2;", 1, 1, 1);
        fatesOf("link a b 3;link c a 5;link d c 3;", 2, 0, 2);
        x = TestKit.of(ABCD + "link a b 2;link b c 2;pair b c;");
        due("whatever is paired", x.link(0, 4) * 10 + x.link(1, 4), 11);
    }

    private static void roomTerms() {
        edge(ASKED, "ROOM of a POINT: by how many HALVES its price can be lowered so that no SLACK of a LINK at it is below 0");
        // slacks: 9 + 4 - 6 = 7, 9 + 3 - 4 = 8
        HeavyPairs x = TestKit.of(ABCD + "link a b 3;link c a 2;price a 9;price b 4;price c 3;price d 7;odd 0 a b c;");
        due("the least slack", x.room(0), 7);
        x.price(0, 2);
        due("lowered by it a link is tight", TestKit.slack(x, 0), 0);
        due("no room", x.room(0), 0);
        x.crown(0, 1);
        due("odd sets count", x.room(0), 1);

        edge(ASKED, "(its whole price at most");
        x = TestKit.of(ABCD + "link a b 3;link c a 2;price a 9;price b 4;price c 3;price d 7;");
        due("slack 7, price 4", x.room(1), 4);
        due("slack 8, price 3", x.room(2), 3);
        x.price(1, 0);
        due("priced 0", x.room(1), 0);

        edge(ASKED, "so, too, without LINKS");
        due("its price", x.room(3), 7);
        x.price(3, 400);
        due("the greatest price", x.room(3), 400);
        x.price(3, 0);
        due("priced 0", x.room(3), 0);

        edge(ASKED, "0, if one is already).");
        x.weigh(0, 1, 50);
        due("at a", x.room(0), 0);
        x.price(1, 40);
        due("at b", x.room(1), 0);
        due("not at c", x.room(2), 3);
        due("below 0 elsewhere", TestKit.slack(x, 0) < 0, true);
    }

    private static String ringText(int many, int paired, int other) {
        StringBuilder text = new StringBuilder(TextKit.pointsText(many));
        for (int p = 0; p < many; p++) {
            char from = (char) ('a' + p);
            char to = (char) ('a' + (p + 1) % many);
            text.append("link ").append(from).append(' ').append(to).append(' ').append(p % 2 == 0 ? paired : other).append(';');
            text.append(p % 2 == 0 ? "pair " + to + " " + from + ";" : "");
        }
        return text.toString();
    }

    private static void gainRows() {
        edge(ASKED, "GAIN: by how much the TOTAL grows at most by one stroke");
        due("one of two", TestKit.of(ABCD + "link a b 5;link c d 6;").gain(), 6);
        due("the heavier of two rows", TestKit.of(ABCDEF + "link a b 2;link b c 5;pair a b;link d e 1;link e f 9;pair d e;").gain(), 8);

        edge(ASKED, "along a row of unlike POINTS LINKED each to the next one");
        // a b c a would have a twice
        due("a ring of three", TestKit.of(ABC + "link a b 10;link b c 1;link c a 10;pair b c;").gain(), 9);
        // all six: 3 * 4 - 2 * 5
        due("a row of six", TestKit.of(ABCDEF + "link a b 4;link b c 5;link c d 4;link d e 5;link e f 4;pair b c;pair d e;").gain(), 2);
        StringBuilder ten = new StringBuilder(TEN);
        for (int p = 0; p < 9; p++) {
            ten.append("link ").append((char) ('a' + p)).append(' ').append((char) ('b' + p)).append(p % 2 == 0 ? " 9;" : " 11;");
        }
        // 5 * 9 - 4 * 11
        due("a row of ten", TestKit.of(ten + "pair b c;pair d e;pair f g;pair h i;").gain(), 1);
        // 4 * 11 - 5 * 8 with both ends at links of pairs
        due("a row of ten, ends at pairs", TestKit.of(ten.toString().replace(" 9;", " 8;") + "pair a b;pair c d;pair e f;pair g h;pair i j;")
                .gain(), 4);

        edge(ASKED, "(or, closed, of 4 LINKS and more, the last to the first, too)");
        for (int many = 4; many <= 10; many += 2) {
            due("a ring of " + many, TestKit.of(ringText(many, 7, 9)).gain(), many);
            due("nothing above in a ring of " + many, TestKit.of(ringText(many, 7, 7)).gain(), 0);
            due("lighter ones of a ring of " + many, TestKit.of(ringText(many, 7, 6)).gain(), 0);
        }
        // closed by its own pair it would be 3 + 3 - 2
        due("two links are no ring", TestKit.of("point a;point b;link a b 2;pair a b;").gain(), 0);
        due("three are none by turns", TestKit.of(ABC + "link a b 5;link b c 4;link c a 4;pair a b;").gain(), 0);
    }

    private static void gains(String text, int points, int gain) {
        TextKit.inAllOrders(points, text, (x, numbers) ->
                due(text + " in the order " + java.util.Arrays.toString(numbers), x.gain(), gain));
    }

    /** Whichever POINT comes first, none is gone through twice. */
    private static void gainRowsOfUnlike() {
        edge(ASKED, "along a row of unlike POINTS LINKED each to the next one");
        // round the ring of four and on from it there would be more
        gains("link a b 1;link b c 5;link c d 1;link d a 5;link b e 5;pair a b;pair c d;", 5, 8);
        // once round the ring of four gains 2, twice would gain 4
        gains("link a b 4;link b c 5;link c d 4;link d a 5;pair a b;pair c d;", 4, 2);
        // in and out of a ring of three by the same link
        gains("link a b 9;link b c 1;link c d 9;link d b 1;pair c d;", 4, 9);
        gains("link a b 2;link b c 9;link c d 1;link d e 9;link e c 1;pair b c;pair d e;", 5, 0);
        // a row through all six, which a shorter one ends at each of its pairs
        gains("link a b 6;link b c 5;link c d 7;link d e 5;link e f 3;pair b c;pair d e;", 6, 6);
        gains("link a b 5;link b c 9;link c d 5;link a c 8;link b d 8;pair b c;", 4, 7);

        edge(ASKED, "(or, closed, of 4 LINKS and more, the last to the first, too)");
        gains("link a b 3;link b c 4;link c d 3;link d a 4;link a c 9;pair a b;pair c d;", 4, 3);
        gains("link a b 3;link b c 4;link c d 3;link d e 4;link e f 3;link f a 4;pair a b;pair c d;pair e f;", 6, 3);

        edge(ASKED, "an end at a LINK that was none of a pair must be lone");
        gains("link a b 1;link b c 9;link c d 5;link d e 1;pair a b;pair c d;", 5, 4);

        edge(ASKED, "(one at a LINK of a pair need not)");
        gains("link a b 3;link b c 9;link c d 4;pair a b;pair c d;", 4, 2);
        gains("link a b 3;link b c 9;pair a b;", 3, 6);

        edge(ASKED, "0, if none is above.");
        gains("link a b 3;link b c 5;link c d 3;link d e 2;pair a b;pair c d;", 5, 1);
        gains("link a b 3;link b c 4;link c d 3;link d e 2;pair a b;pair c d;", 5, 0);
        gains("link a b 3;link b c 5;link c d 3;link d e 2;link a e 2;pair a b;pair c d;", 5, 1);
        gains("link a b 3;link b c 5;link c d 5;link d e 2;link a e 2;pair a b;pair c d;", 5, 0);
    }

    private static void gainEnds() {
        edge(ASKED, "LINKS by turns of a pair and not, those of pairs are none then, those that were not are");
        // b c and c d can't be together
        due("not two that were none", TestKit.of(ABCD + "link b c 5;link c d 6;").gain(), 6);
        due("a pair goes, two come", TestKit.of(ABCD + "link a b 4;link b c 7;link c d 5;pair b c;").gain(), 2);
        due("two pairs go, one comes", TestKit.of(ABCD + "link a b 3;link b c 8;link c d 4;pair a b;pair c d;").gain(), 1);

        edge(ASKED, "an end at a LINK that was none of a pair must be lone");
        due("c is paired", TestKit.of(ABCD + "link a b 1;link c d 1;link b c 2;pair a b;pair c d;").gain(), 0);
        due("c is paired, a is lone", TestKit.of(ABC + "link a b 4;link b c 5;pair b c;").gain(), 0);
        due("both are lone", TestKit.of(ABC + "link a b 4;link b c 5;").gain(), 5);

        edge(ASKED, "(one at a LINK of a pair need not)");
        due("from a pair to a lone one", TestKit.of(ABC + "link a b 3;link b c 5;pair a b;").gain(), 2);
        due("from a lone one to a pair", TestKit.of(ABC + "link a b 5;link b c 3;pair b c;").gain(), 2);
        due("from a pair to a pair", TestKit.of(ABCD + "link a b 3;link b c 9;link c d 3;pair a b;pair c d;").gain(), 3);

        edge(ASKED, "0, if none is above.");
        due("no points", new HeavyPairs().gain(), 0);
        due("no links", TestKit.of(ABCD).gain(), 0);
        due("all are worse", TestKit.of(ABCD + "link a b 3;link b c 2;link c d 9;pair a b;pair c d;").gain(), 0);
        due("one is as good", TestKit.of(ABC + "link a b 3;link b c 3;pair a b;").gain(), 0);
    }

    private static void whoTerms() {
        HeavyPairs x = TestKit.of(fiveByFive(3));
        edge(ASKED, "WHO by the tape (pairs of bytes: a POINT, its partner");
        due("a with f", TestKit.who(x, 0, 5), 24);
        due("told the other way round", TestKit.who(x, 5, 0), 24);
        due("not linked", TestKit.who(x, 0, 1), 0);
        due("with itself", TestKit.who(x, 0, 0), 0);

        edge(ASKED, "255: it is lone");
        due("none is", TestKit.who(x, 0, 255), 0);
        due("one is", TestKit.who(TestKit.of(RING), 1, 255), 1);
        due("both can't be", TestKit.who(TestKit.of(RING), 1, 255, 0, 255), 0);
        due("one without links", TestKit.who(TestKit.of(RING + "point d;"), 3, 255), 3);

        due("ten that are lone", TestKit.who(TestKit.of(TEN), 0, 255, 9, 255), 1);
        for (int paired = 0; paired < 9; paired++) {
            HeavyPairs y = TestKit.of(TEN + "link " + (char) ('a' + paired) + " j 5;");
            due("eight that are lone", TestKit.who(y, paired, 9), 1);
            due("eight that are lone", TestKit.who(y, (paired + 1) % 9, 255), 1);
            due("it is in all", y.link(0, 4), 2);
        }

        edge(ASKED, "1 to 6 of them)");
        due("none", TestKit.who(x), -1);
        due("one", TestKit.who(x, 0, 5), 24);
        due("two", TestKit.who(x, 0, 5, 1, 6), 6);
        due("three", TestKit.who(x, 0, 5, 1, 6, 2, 7), 2);
        due("six", TestKit.who(x, 0, 5, 1, 6, 2, 7, 3, 8, 4, 9, 9, 4), 1);
        due("seven", TestKit.who(x, 0, 5, 1, 6, 2, 7, 3, 8, 4, 9, 9, 4, 0, 5), -1);
        due("half of one", TestKit.who(x, 0), -1);
        due("one and a half", TestKit.who(x, 0, 5, 1), -1);

        edge(ASKED, "how many BEST pairings have all of this.");
        due("two that are one another's", TestKit.who(x, 0, 5, 5, 0), 24);
        due("told twice", TestKit.who(x, 0, 5, 0, 5), 24);
        due("two ways", TestKit.who(x, 0, 5, 0, 6), 0);
        due("two with one", TestKit.who(x, 0, 5, 1, 5), 0);
        x.weigh(0, 5, 4);
        due("one link is heavier", TestKit.who(x, 0, 6), 0);
        due("all the others", TestKit.who(x, 1, 6), 6);
        x.weigh(0, 5, 3);
        x.pair(0, 6);
        due("pairs as they are are no matter", TestKit.who(x, 0, 5), 24);
    }

    private static void askTerms() {
        edge(ASKED, "ASK: the POINT whose partners (or lone) in these are so that the greatest number of these that have one of them is the least");
        HeavyPairs x = TestKit.of(fiveByFive(3));
        TestKit.who(x, 0, 5);
        due("of 24 each other one parts them in fours", x.ask(), 1);
        TestKit.who(x, 0, 5, 1, 6, 2, 7);
        due("two are left, by d", x.ask(), 3);
        // b, c, d with a, each in one of three, lone in two
        x = TestKit.of("point b;point c;point d;point a;point e;link a b 1;link a c 1;link a d 1;");
        TestKit.who(x, 4, 255);
        due("lone counts", x.ask(), 3);
        // a with b in one, with c in two (d with e, or with f), with d in none
        x = TestKit.of(ABCDEF + "link a b 2;link b c 2;link d e 2;link d f 2;link a c 2;");
        due("six", TestKit.who(x, 0, 1) + TestKit.who(x, 0, 2) + TestKit.who(x, 0, 255), 6);
        due("two of c alone", TestKit.who(x, 2, 255), 2);
        due("d has e or f", x.ask(), 3);

        edge(ASKED, "(of like ones the first).");
        due("all are alike", TestKit.who(TestKit.of(RING), 0, 255), 1);
        x = TestKit.of(RING + "point d;");
        TestKit.who(x, 3, 255);
        due("a, b, c are alike", x.ask(), 0);
        TestKit.who(x, 0, 1);
        due("one is left: all are alike", x.ask(), 0);
        x = TestKit.of("point d;" + RING);
        TestKit.who(x, 0, 255);
        due("d is always lone, then a", x.ask(), 1);
    }

    private static void meansAndTags() {
        edge(ASKED, "MEAN: TOTAL of the pairing by how many pairs it has.");
        HeavyPairs x = TestKit.of(ABCDEF + "link a b 4;link c d 5;link e f 99;pair a b;pair c d;");
        due("nine", TestKit.mean(x, 0), 9);
        due("by two", TestKit.mean(x, 1), 2);

        edge(ASKED, "TAG of a POINT: its NAME, then ' with ' and the partner's NAME, or ' lone', then ' at ' and its price in HALVES as digits.");
        x = TestKit.of("point a;point bcdefgh;point z;link a bcdefgh 1;pair a bcdefgh;price a 400;price z 7;");
        due("with", TestKit.tagText(x, 0).equals("a with bcdefgh at 400"), true);
        due("with, 0", TestKit.tagText(x, 1).equals("bcdefgh with a at 0"), true);
        due("lone", TestKit.tagText(x, 2).equals("z lone at 7"), true);
        for (int n : new int[] {9, 10, 19, 99, 100, 109, 110, 200, 399}) {
            x.price(2, n);
            due("digits of " + n, TestKit.tagText(x, 2).equals("z lone at " + n), true);
        }
    }

    // ---- draws, by the document's words

    private static int drawX;

    private static int draw(int n) {
        drawX = drawX * 1103515245 + 12345;
        return (drawX >>> 8) % n;
    }

    /** The first seed from a number on whose draws of these numbers are these: n, draw, n, draw .. */
    private static int seedOf(int from, int... draws) {
        for (int seed = from; seed < from + 50000000; seed++) {
            drawX = seed;
            boolean fits = true;
            for (int i = 0; i < draws.length && fits; i += 2) {
                fits = draw(draws[i]) == draws[i + 1];
            }
            if (fits) {
                return seed;
            }
        }
        throw new IllegalStateException("no seed");
    }

    private static void drawTerms() {
        edge(ASKED, "DRAWN by a seed x: for each draw of n x becomes x * 1103515245 + 12345 (an int, wrapping), the draw is (x >>> 8) % n");
        // one point alone: prices are all that can come of draws
        int[] seeds = {0, 1, 2, 12345, -1, -2, -12345, LEAST, LEAST + 1, MOST, MOST - 1, 0x7fffff00, 0x80000001};
        for (int seed : seeds) {
            priceAlone(seed, 1);
            priceAlone(seed, 9);
            priceAlone(seed, 60);
        }
        // by hand: 1103527590 >>> 8 is 4310654, which is 0 of 7
        due("seed 1 pairs, but one is alone", TestKit.of("point a;").drawn(1, 1), 0);

        edge(ASKED, "each DEED (no POINTS: nothing is drawn)");
        HeavyPairs x = new HeavyPairs();
        due("no points", x.drawn(60, 1), 0);
        due("all stays", x.count(0) + x.now(4), 0);
    }

    private static void priceAlone(int seed, int deeds) {
        int price = 0;
        int done = 0;
        drawX = seed;
        for (int i = 0; i < deeds; i++) {
            int kind = draw(7);
            int draws = kind == 0 ? 2 : kind == 1 || kind == 4 || kind == 5 ? 1 : 0;
            for (int k = 0; k < draws; k++) {
                draw(1);
            }
            if (kind == 3) {
                draw(1);
                int drawn = draw(60);
                done += drawn == price ? 0 : 1;
                price = drawn;
            }
        }
        HeavyPairs x = TestKit.of("point a;");
        due("seed " + seed + ", deeds " + deeds, x.drawn(deeds, seed), done);
        due("price of seed " + seed + ", deeds " + deeds, TestKit.point(x, 0, 1), price);
    }

    /** Draws one DEED; then what is asked must be as told. */
    private static HeavyPairs drawnOnce(String text, int done, int... draws) {
        HeavyPairs x = TestKit.of(text);
        due("done " + java.util.Arrays.toString(draws), x.drawn(1, seedOf(0, draws)), done);
        HeavyPairs y = TestKit.of(text);
        due("done by another seed", y.drawn(1, seedOf(-2000000000, draws)), done);
        due("like for both seeds", TestKit.state(x).equals(TestKit.state(y)), true);
        return x;
    }

    private static void drawnDeeds() {
        edge(ASKED, "a draw of 7: 0: a draw of all POINTS, again of all: they PAIR");
        HeavyPairs x = drawnOnce(FIVE, 1, 7, 0, 5, 3, 5, 4);
        due("d with e", TestKit.point(x, 3, 0), 4);
        drawnOnce(FIVE, 0, 7, 0, 5, 0, 5, 3);
        drawnOnce(FIVE, 0, 7, 0, 5, 0, 5, 1);

        edge(ASKED, "1: of all: it is PARTED");
        x = drawnOnce(FIVE, 1, 7, 1, 5, 2);
        due("b is lone", TestKit.point(x, 1, 0), -1);
        drawnOnce(FIVE, 0, 7, 1, 5, 4);

        edge(ASKED, "2: a draw of all LINKS (none: no more draws), of 30 (and 1): it is WEIGHED so");
        x = drawnOnce(FIVE, 1, 7, 2, 6, 5, 30, 29);
        due("the last link", x.link(5, 2), 30);
        x = drawnOnce(FIVE, 1, 7, 2, 6, 0, 30, 0);
        due("the first link", x.link(0, 2), 1);
        drawnOnce(FIVE, 0, 7, 2, 6, 1, 30, 7);
        x = drawnOnce("point a;point b;link b a 40;", 1, 7, 2, 1, 0, 30, 29);
        due("the only link", x.link(0, 2), 30);
        x = TestKit.of(ABC);
        due("without links", x.drawn(2, seedOf(0, 7, 2, 7, 3, 3, 1, 60, 41)), 1);
        due("no more draws", TestKit.point(x, 1, 1), 41);

        edge(ASKED, "3: of all POINTS, of 60: it is PRICED so");
        x = drawnOnce(FIVE, 1, 7, 3, 5, 4, 60, 59);
        due("the last point", TestKit.point(x, 4, 1), 59);
        x = drawnOnce(FIVE, 1, 7, 3, 5, 0, 60, 0);
        due("the first point", TestKit.point(x, 0, 1), 0);
        drawnOnce(FIVE, 0, 7, 3, 5, 0, 60, 6);

        edge(ASKED, "4, 5: of all: it GROWS");
        for (int kind = 4; kind <= 5; kind++) {
            x = drawnOnce(FIVE, 1, 7, kind, 5, 3);
            due("d with e", TestKit.point(x, 3, 0), 4);
            due("a path is turned", x.now(5), 1);
            due("grow() told none", x.growAt(0), -1);
            drawnOnce(FIVE, 0, 7, kind, 5, 1);
            drawnOnce(ABC, 0, 7, kind, 3, 1);
        }

        edge(ASKED, "6: a draw of all ODD sets (none: no more draws), of 20: it is CROWNED so");
        x = drawnOnce(FIVE, 1, 7, 6, 2, 1, 20, 19);
        due("the last set", x.odd(1, 1), 19);
        x = drawnOnce(FIVE, 1, 7, 6, 2, 0, 20, 0);
        due("the first set", x.odd(0, 1), 0);
        drawnOnce(FIVE, 0, 7, 6, 2, 0, 20, 2);
        x = drawnOnce(ABC + "odd 20 c b a;", 1, 7, 6, 1, 0, 20, 19);
        due("the only set", x.odd(0, 1), 19);
        x = TestKit.of(ABC);
        due("without sets", x.drawn(2, seedOf(0, 7, 6, 7, 3, 3, 2, 60, 17)), 1);
        due("no more draws", TestKit.point(x, 2, 1), 17);
    }

    private static void drawnAlike() {
        edge(ASKED, "(each, if they are unlike, and it can be).");
        HeavyPairs x = TestKit.of(FIVE);
        due("alike, then d with e", x.drawn(2, seedOf(0, 7, 0, 5, 3, 5, 3, 7, 0, 5, 3, 5, 4)), 1);
        due("d with e", TestKit.point(x, 3, 0), 4);
        x = TestKit.of(FIVE);
        due("b can't be priced anew, then it is", x.drawn(2, seedOf(0, 7, 3, 5, 1, 60, 0, 7, 3, 5, 1, 60, 8)), 1);
        due("b", TestKit.point(x, 1, 1), 8);
    }

    private static void lastTerms() {
        edge(ASKED, "All fractions are told by two numbers: 0 above, 1 below, in least terms.");
        HeavyPairs x = TestKit.of(TextKit.pointsText(8) + "link a b 1;link c d 2;link e f 3;link g h 4;pair a b;pair c d;pair e f;pair g h;");
        due("ten by four", TestKit.mean(x, 0), 5);
        due("ten by four", TestKit.mean(x, 1), 2);
        x.weigh(0, 1, 3);
        due("twelve by four", TestKit.mean(x, 0), 3);
        due("twelve by four", TestKit.mean(x, 1), 1);
        x.weigh(0, 1, 4);
        due("thirteen by four", TestKit.mean(x, 0), 13);
        due("thirteen by four", TestKit.mean(x, 1), 4);

        edge(ASKED, "A new NETWORK: pairs, prices and ODD sets as told, no SENTENCE.");
        x = TestKit.of(FIVE);
        TestKit.sentence(x, "lone");
        x.pair(3, 4);
        x.price(1, 9);
        x.crown(1, 9);
        x.grow(0);
        TestKit.network(x, FIVE);
        due("as told", TestKit.state(x).equals(TestKit.state(TestKit.of(FIVE))), true);
        due("no sentence", x.said(-1), -1);
        TestKit.network(x, "");
        due("nothing told", TestKit.state(x).equals(TestKit.state(new HeavyPairs())), true);

        edge(ASKED, "A call that throws changes nothing.");
        x = TestKit.of(FIVE);
        x.price(1, 9);
        x.part(1);
        x.feed(1, 2, 3, 4, 5);
        String ahead = TestKit.state(x);
        due("point", TestKit.point(x, 5, 0), THROWS);
        due("slack", TestKit.slack(x, 6), THROWS);
        due("proofBy", TestKit.proofBy(x), THROWS);
        due("mean", TestKit.mean(x, 0), THROWS);
        due("all stays", TestKit.state(x).equals(ahead), true);
        due("the tape stays", x.count(3), 20);
        due("what can be undone stays", x.undo(), 1);
    }

    private static void proof() {
        edge(24, "PROOF: 0 to 4.");
        String[] texts = {PROVEN, ABCD + "link a b 1;", ABCD + "link a b 1;pair a b;price a 3;", ABCD + "price d 1;", ABCD + "odd 1 a b d;"};
        for (int kind = 0; kind <= 4; kind++) {
            HeavyPairs x = TestKit.of(texts[kind]);
            String ahead = TestKit.state(x);
            due("kind " + kind, x.proof(), kind);
            due("all stays " + kind, TestKit.state(x).equals(ahead), true);
        }
    }

    private static void proofAt() {
        edge(25, "Of the latest proof(), as it was then");
        HeavyPairs x = TestKit.of(FIVE);
        due("not asked so far", x.proofAt(), -1);
        x.proof();
        due("the first link", x.proofAt(), 0);
        x.price(0, 8);
        due("as it was", x.proofAt(), 0);
        due("the latest", x.proof(), 1);
        due("the latest", x.proofAt(), 1);
        TestKit.network(x, ABC);
        due("as it was, in another network", x.proofAt(), 1);
        x.image(0);
        x.restore(0);
        due("as it was, behind restore", x.proofAt(), 1);

        edge(25, "the first LINK by number of which 1 or 2 is so");
        x = TestKit.of(ABCD + "link c d 2;link b c 2;link a b 2;price a 4;price b 0;price c 4;");
        due("two are tight, none is below", x.proof(), 3);
        x.weigh(1, 2, 3);
        x.weigh(0, 1, 3);
        x.proof();
        due("the first of two below 0", x.proofAt(), 1);
        x = TestKit.of(PROVEN);
        x.price(0, 4);
        x.price(3, 6);
        x.proof();
        due("the first of two that are not tight", x.proofAt(), 0);
        x.price(0, 3);
        x.proof();
        due("the second", x.proofAt(), 1);

        edge(25, "the first POINT (3)");
        x = TestKit.of(ABCD + "price b 2;price c 1;");
        x.proof();
        due("b", x.proofAt(), 1);
        x.price(0, 1);
        x.proof();
        due("a", x.proofAt(), 0);
        for (int p = 0; p < 10; p++) {
            x = TestKit.of(TEN);
            x.price(p, 3);
            x.price(9, 4);
            due("3 for " + p, x.proof(), 3);
            due("at " + p, x.proofAt(), p);
        }

        edge(25, "the first ODD set (4)");
        x = TestKit.of(ABCD + "odd 0 a b c;odd 2 a b d;odd 1 a c d;");
        x.proof();
        due("the second", x.proofAt(), 1);
        for (int k = 0; k < 6; k++) {
            HeavyPairs y = TestKit.of(TEN + "odd 0 a b c;odd 0 a b d;odd 0 a b e;odd 0 a b f;odd 0 a b g;odd 0 a b h;");
            y.crown(k, 9);
            y.crown(5, 8);
            due("4 for " + k, y.proof(), 4);
            due("at " + k, y.proofAt(), k);
        }

        edge(25, "NONE: it was 0, or ahead of any.");
        due("ahead of any", new HeavyPairs().proofAt(), -1);
        x.crown(1, 0);
        x.crown(2, 0);
        due("it is 0", x.proof(), 0);
        due("it was 0", x.proofAt(), -1);
        x.crown(1, 5);
        due("it was 0 then", x.proofAt(), -1);
    }

    private static void proofBy() {
        edge(26, "By how many HALVES: the SLACK of that LINK (1, 2)");
        HeavyPairs x = TestKit.of(PROVEN);
        x.price(0, 1);
        x.proof();
        due("below 0", TestKit.proofBy(x), -2);
        x.price(0, 9);
        due("as it was", TestKit.proofBy(x), -2);
        x.proof();
        due("above 0", TestKit.proofBy(x), 6);

        edge(26, "the price of that POINT (3), of that ODD set (4).");
        x = TestKit.of(ABCD + "price d 400;odd 3 a b c;");
        x.proof();
        due("a point", TestKit.proofBy(x), 400);
        x.price(3, 0);
        x.proof();
        due("an odd set", TestKit.proofBy(x), 3);

        edge(26, "NoSuchElementException: it was 0, or ahead of any.");
        due("ahead of any", TestKit.proofBy(TestKit.of(FIVE)), THROWS);
        x.crown(0, 0);
        x.proof();
        due("it was 0", TestKit.proofBy(x), THROWS);
        x.crown(0, 1);
        due("it was 0 then", TestKit.proofBy(x), THROWS);
    }

    private static void room() {
        HeavyPairs x = TestKit.of(ABCD + "link a b 3;price a 9;price b 4;price d 7;");
        edge(27, "ROOM of a POINT: HALVES");
        int[] rooms = {7, 4, 0, 7};
        for (int p = 0; p < 4; p++) {
            due("room of " + p, x.room(p), rooms[p]);
        }
        due("nothing changes", x.now(4), 20);

        edge(27, "NONE: no such one.");
        for (int bad : new int[] {-1, 4, 10, LEAST, MOST}) {
            due("room of " + bad, x.room(bad), -1);
        }
        due("no points", new HeavyPairs().room(0), -1);
    }

    private static void best() {
        edge(28, "BEST: TOTAL.");
        due("no points", new HeavyPairs().best(), 0);
        due("no links", TestKit.of(ABCD).best(), 0);
        HeavyPairs x = TestKit.of(FIVE);
        due("12", x.best(), 12);
        due("the pairing stays", x.now(0), 8);
        due("five heavy pairs", TestKit.of(fiveByFive(99)).best(), 495);

        edge(29, "The partner of a POINT by the latest best()");
        due("by it", x.bestOf(0), 1);
        due("by it", x.bestOf(3), 2);
        x.weigh(1, 2, 90);
        due("weighed since", x.bestOf(0), 1);
        x.next();
        x.link(0, 4);
        TestKit.who(x, 0, 4);
        due("other calls leave it", x.bestOf(1), 0);
        due("another", x.best(), 94);
        due("by another", x.bestOf(1), 2);
        TestKit.network(x, "point a;");
        due("in another network", x.bestOf(1), 2);

        edge(29, "NONE: it is lone, no such one then, or ahead of any.");
        due("lone", x.bestOf(0), -1);
        due("below", x.bestOf(-1), -1);
        due("behind", x.bestOf(5), -1);
        due("far below", x.bestOf(LEAST), -1);
        due("far behind", x.bestOf(MOST), -1);
        x.best();
        due("no such one then", x.bestOf(1), -1);
        TestKit.network(x, FIVE);
        due("no such one then, though there is one now", x.bestOf(1), -1);
        due("ahead of any", TestKit.of(FIVE).bestOf(0), -1);
    }

    private static void nextHeavyWays() {
        HeavyPairs x = TestKit.of(ABCD + "link a b 3;link b c 9;link c d 4;");
        edge(30, "NEXT: TOTAL");
        due("7 below 9", x.next(), 7);
        x.weigh(1, 2, 7);
        due("4 below 7 and 7", x.next(), 4);
        x.weigh(1, 2, 1);
        due("4 below 7", x.next(), 4);

        edge(30, "NONE: there is none.");
        due("no points", new HeavyPairs().next(), -1);
        due("no links", TestKit.of(ABCD).next(), -1);
        due("one link", TestKit.of(ABCD + "link a b 1;").next(), 0);

        edge(31, "HEAVY of k");
        x = TestKit.of(ABCD + "link a b 3;link b c 9;link c d 4;");
        due("none", x.heavy(0), 0);
        due("one", x.heavy(1), 9);
        due("two", x.heavy(2), 7);

        edge(31, "NONE: there are no k pairs, k is below 0.");
        due("three", x.heavy(3), -1);
        for (int bad : new int[] {-1, 4, 5, 6, 7, 100, LEAST, MOST}) {
            due(bad + " pairs", x.heavy(bad), -1);
        }
        due("no links", TestKit.of(ABCD).heavy(1), -1);

        edge(32, "WAYS of k (0: there are none).");
        due("none", x.ways(0), 1);
        due("one", x.ways(1), 3);
        due("two", x.ways(2), 1);
        for (int bad : new int[] {-1, 3, 5, 6, 7, 100, LEAST, MOST}) {
            due(bad + " pairs", x.ways(bad), 0);
        }
    }

    private static void gain() {
        edge(33, "GAIN.");
        HeavyPairs x = TestKit.of(FIVE);
        due("d with e", x.gain(), 4);
        due("nothing changes", x.now(0), 8);
        x.pair(3, 4);
        due("nothing above", x.gain(), 0);
        x.weigh(0, 1, 99);
        due("a b, c d for b c, d e", x.gain(), 99 + 7 - 12);
    }

    private static void who() {
        edge(34, "WHO: how many");
        HeavyPairs x = TestKit.of(RING + "point d;");
        due("one", TestKit.who(x, 0, 1), 1);
        due("three", TestKit.who(x, 3, 255), 3);
        due("none", TestKit.who(x, 3, 0), 0);
        due("nothing changes", x.now(1), 0);

        edge(34, "NONE: not as told (a first byte that is no POINT, a second one that is none nor 255, too).");
        due("no bytes", TestKit.who(x), -1);
        due("one byte", TestKit.who(x, 0), -1);
        due("13 bytes", TestKit.who(x, 0, 1, 0, 1, 0, 1, 0, 1, 0, 1, 0, 1, 0), -1);
        due("14 bytes", TestKit.who(x, 0, 1, 0, 1, 0, 1, 0, 1, 0, 1, 0, 1, 0, 1), -1);
        for (int bad = 4; bad < 256; bad++) {
            // far fewer than 512 calls an object
            if (bad % 60 == 0) {
                x = TestKit.of(RING + "point d;");
            }
            due("first " + bad, TestKit.who(x, bad, 0), -1);
            due("second " + bad, TestKit.who(x, 0, bad), bad == 255 ? 1 : -1);
        }
        due("a later first", TestKit.who(x, 0, 1, 4, 0), -1);
        due("a later second", TestKit.who(x, 0, 1, 2, 4), -1);
        due("no points", TestKit.who(new HeavyPairs(), 0, 255), -1);
    }

    private static void ask() {
        edge(35, "ASK by the latest who() above 0");
        HeavyPairs x = TestKit.of("point d;" + RING);
        TestKit.who(x, 0, 255);
        due("a", x.ask(), 1);
        TestKit.who(x, 0, 1);
        due("0 leaves it", x.ask(), 1);
        TestKit.who(x, 0, 254);
        due("NONE leaves it", x.ask(), 1);
        TestKit.who(x, 1, 2);
        due("the latest", x.ask(), 0);

        // the LINKS are as ahead of it, the POINTS are not
        x = new HeavyPairs();
        due("no points", x.best(), 0);
        TestKit.network(x, "point a;");
        due("a point", TestKit.who(x, 0, 255), 1);
        due("it is the one to ask", x.ask(), 0);
        x = TestKit.of("point d;" + RING);
        TestKit.who(x, 1, 2);

        edge(35, "(by LINKS as they were then)");
        TestKit.who(x, 0, 255);
        x.weigh(1, 2, 90);
        due("weighed since", x.ask(), 1);
        x.best();
        x.link(0, 4);
        due("other calls leave it", x.ask(), 1);
        TestKit.network(x, "");
        due("in another network", x.ask(), 1);

        edge(35, "NONE ahead of any.");
        x = TestKit.of(RING);
        due("ahead of any", x.ask(), -1);
        TestKit.who(x, 0, 0);
        due("behind 0 alone", x.ask(), -1);
        TestKit.who(x, 0, 9);
        due("behind NONE alone", x.ask(), -1);
    }

    private static void mean() {
        edge(36, "MEAN.");
        HeavyPairs x = TestKit.of(FIVE);
        due("8 by 1", TestKit.mean(x, 0), 8);
        due("8 by 1", TestKit.mean(x, 1), 1);
        x = TestKit.of(TEN + "link a b 99;link c d 99;link e f 99;link g h 99;link i j 98;"
                + "pair a b;pair c d;pair e f;pair g h;pair i j;");
        due("494 by 5", TestKit.mean(x, 0), 494);
        due("494 by 5", TestKit.mean(x, 1), 5);
        x.weigh(8, 9, 99);
        due("495 by 5", TestKit.mean(x, 0), 99);
        due("495 by 5", TestKit.mean(x, 1), 1);

        edge(36, "NoSuchElementException: there is no pair, no such ones.");
        due("no points", TestKit.mean(new HeavyPairs(), 0), THROWS);
        due("no pair", TestKit.mean(TestKit.of(RING), 0), THROWS);
        due("no pair", TestKit.mean(TestKit.of(RING), 1), THROWS);
        for (int bad : new int[] {-1, 2, 3, LEAST, MOST}) {
            due("what " + bad, TestKit.mean(x, bad), THROWS);
        }
    }

    private static void tag() {
        HeavyPairs x = TestKit.of("point abcdefg;point hijklmn;point z;link abcdefg hijklmn 1;pair abcdefg hijklmn;price abcdefg 400;");
        edge(37, "TAG of a POINT: how many bytes");
        due("the longest", x.tag(0), "abcdefg with hijklmn at 400".length());
        due("its last byte", x.byteAt(26), '0');
        due("none behind it", x.byteAt(27), -1);
        due("the shortest", x.tag(2), "z lone at 0".length());

        edge(37, "NONE: no such one.");
        for (int bad : new int[] {-1, 3, 10, LEAST, MOST}) {
            due("tag of " + bad, x.tag(bad), -1);
        }

        edge(38, "Byte i of the latest TAG");
        String text = "z lone at 0";
        for (int i = 0; i < text.length(); i++) {
            due("byte " + i, x.byteAt(i), text.charAt(i));
        }
        x.price(2, 9);
        TestKit.network(x, "point q;");
        due("as it was then", x.byteAt(10), '0');
        due("as it was then", x.byteAt(0), 'z');

        edge(38, "NONE: none such.");
        for (int bad : new int[] {-1, 11, 12, 26, LEAST, MOST}) {
            due("byte " + bad, x.byteAt(bad), -1);
        }
        due("ahead of any", new HeavyPairs().byteAt(0), -1);
        HeavyPairs y = TestKit.of(ABC);
        y.tag(3);
        due("behind NONE alone", y.byteAt(0), -1);
    }

    private static void drawn() {
        edge(39, "n (1 to 60) DEEDS DRAWN by a seed: how many were done");
        // e is priced 7, a is lone and can't be parted, b is parted
        int seed = seedOf(0, 7, 3, 5, 4, 60, 7, 7, 1, 5, 0, 7, 1, 5, 1);
        int[] done = {0, 1, 1, 2};
        for (int n = 1; n <= 3; n++) {
            HeavyPairs x = TestKit.of(FIVE);
            due(n + " deeds", x.drawn(n, seed), done[n]);
            due("priced", TestKit.point(x, 4, 1), 7);
            due("parted", x.now(1), n == 3 ? 0 : 1);
        }
        for (seed = 0; seed < 40; seed++) {
            priceAlone(seed, 59);
            priceAlone(seed, 60);
        }
        HeavyPairs x = TestKit.of(FIVE);
        due("the same seed gives the same", x.drawn(60, 77), TestKit.of(FIVE).drawn(60, 77));

        edge(39, "NONE: not as told.");
        x = TestKit.of(FIVE);
        for (int bad : new int[] {0, -1, 61, LEAST, MOST}) {
            due(bad + " deeds", x.drawn(bad, 5), -1);
        }
        due("all stays", TestKit.state(x).equals(TestKit.state(TestKit.of(FIVE))), true);
        due("nothing to undo", x.undo(), -1);
        due("no points, not as told", new HeavyPairs().drawn(61, 1), -1);
    }

    private static int pairedBehindTwelve(int p, int seed) {
        HeavyPairs x = TestKit.of(FIVE);
        x.part(1);
        x.drawn(12, seed);
        return TestKit.point(x, p, 0) == -1 ? 0 : 1;
    }

    private static void odds() {
        edge(40, "Of n (1 to 20) seeds x, x and 1, .. by how many a POINT is paired behind 12 DEEDS DRAWN from now on");
        HeavyPairs x = TestKit.of(FIVE);
        x.part(1);
        for (int seed : new int[] {0, 5, -7, 1000, MOST - 4, LEAST}) {
            for (int p = 0; p < 5; p += 2) {
                int paired = 0;
                for (int n = 1; n <= 20; n++) {
                    paired += pairedBehindTwelve(p, seed + n - 1);
                    if (n == 1 || n == 2 || n >= 19) {
                        due(n + " seeds from " + seed + " for " + p, x.odds(p, n, seed), paired);
                    }
                }
            }
        }
        x.pair(3, 4);
        String ahead = TestKit.state(x);
        x.odds(0, 20, 3);
        due("all stays", TestKit.state(x).equals(ahead), true);
        due("nothing more to undo", x.undo(), 1);

        edge(40, "NONE: no such ones.");
        for (int bad : new int[] {-1, 5, 10, LEAST, MOST}) {
            due("point " + bad, x.odds(bad, 1, 1), -1);
        }
        for (int bad : new int[] {-1, 0, 21, LEAST, MOST}) {
            due(bad + " seeds", x.odds(0, bad, 1), -1);
        }
        due("no points", new HeavyPairs().odds(0, 1, 1), -1);
    }
}
