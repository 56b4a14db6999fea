/** Each promise of the document by hand-made cases: ordinary ones, its edges, and wrong inputs. */
public final class PromiseTests {
    private static final int THROWS = TestKit.THROWS;

    private static final String FIVE = "point a;point b;point c;point d;point e;"
            + "link a b 5;link b c 8;link c a 6;link c d 7;link d e 4;link a e 3;"
            + "pair b c;price a 6;odd 2 a b c;odd 0 a b c d e;";
    /** A row of six, the pairs inside: the only PATH of a goes through all. */
    private static final String ROW = "point a;point b;point c;point d;point e;point f;"
            + "link a b 4;link b c 9;link c d 4;link d e 9;link e f 4;pair b c;pair e d;";
    /** Three LINKS of like WEIGHT in a ring. */
    private static final String RING = "point a;point b;point c;link a b 2;link b c 2;link c a 2;";

    public static void main(String[] args) {
        newObject();
        tapeAndTexts();
        points();
        linksAndSets();
        nowTold();
        pairing();
        pricing();
        growing();
        flowers();
        undoing();
        undoOfAllDeeds();
        proofs();
        rooms();
        heaviest();
        gains();
        whoAndAsk();
        means();
        tags();
        draws();
        books();
        bookReasons();
        sentences();
        images();
        counts();
        TestKit.finish("PromiseTests");
    }

    private static void due(String call, long got, long want) {
        TestKit.due(call, got, want);
    }

    private static void due(String call, boolean got, boolean want) {
        TestKit.due(call, got, want);
    }

    // 1, 5, 18, 21, 23, 25, 26, 29, 35, 38, 42, 44: ahead of any
    private static void newObject() {
        HeavyPairs x = new HeavyPairs();
        due("1 NONE", HeavyPairs.NONE, -1);
        for (int what = 0; what < 4; what++) {
            due("1 count " + what, x.count(what), 0);
        }
        for (int what = 0; what < 7; what++) {
            due("1 now " + what, x.now(what), 0);
        }
        due("5 fault", x.fault(), 0);
        due("18 growAt", x.growAt(0), -1);
        due("19 turn", x.turn(), 1);
        due("21 flowerAt", x.flowerAt(0), -1);
        due("22 shrink", x.shrink(), 1);
        due("23 undo", x.undo(), -1);
        due("25 proofAt", x.proofAt(), -1);
        due("26 proofBy", TestKit.proofBy(x), THROWS);
        due("29 bestOf", x.bestOf(0), -1);
        due("35 ask", x.ask(), -1);
        due("38 byteAt", x.byteAt(0), -1);
        due("42 told", x.told(0), -1);
        due("42 told", x.told(3), -1);
        due("44 said", x.said(-1), -1);
        due("46 restore", x.restore(0), false);
        due("24 proof", x.proof(), 0);
        due("28 best", x.best(), 0);
        due("30 next", x.next(), -1);
        due("31 heavy 0", x.heavy(0), 0);
        due("32 ways 0", x.ways(0), 1);
        due("33 gain", x.gain(), 0);
        due("36 mean", TestKit.mean(x, 0), THROWS);
        due("39 drawn", x.drawn(60, 5), 0);
        due("23 undo behind nothing", x.undo(), -1);
    }

    // 2, 3, 4, 5
    private static void tapeAndTexts() {
        HeavyPairs x = new HeavyPairs();
        due("3 end 0 of none", x.end(0), true);
        due("3 end 1 of none", x.end(1), false);
        due("2 feed", x.feed(0x01ff0203, 0, 0, 0, 0), 20);
        for (int n = 2; n <= 47; n++) {
            due("2 feed " + n, x.feed(-1, -1, -1, -1, -1), 20 * n);
        }
        due("2 feed past 940", x.feed(0, 0, 0, 0, 0), -1);
        due("2 none come", x.count(3), 940);
        due("3 end -1", x.end(-1), false);
        due("3 end 941", x.end(941), false);
        due("3 end least", x.end(Integer.MIN_VALUE), false);
        due("3 it stays", x.count(3), 940);
        due("3 end 940", x.end(940), true);
        due("3 end 921", x.end(921), true);
        due("2 feed past 940 by one", x.feed(0, 0, 0, 0, 0), -1);
        due("3 end 2", x.end(2), true);
        due("3 has 2", x.count(3), 2);
        due("3 end 3 of 2", x.end(3), false);

        // of each number the highest byte first
        x = TestKit.of(RING);
        x.feed(0x00010102, 0x02000000, 0, 0, 0);
        x.end(2);
        due("2 the order of bytes", x.who(), 1);

        x = new HeavyPairs();
        due("4 network of nothing", x.network(), 0);
        due("4 network", TestKit.network(x, FIVE), 15);
        due("4 the tape is empty", x.count(3), 0);
        due("5 no fault", x.fault(), 0);
        due("4 a fault", TestKit.network(x, "point a;point a;"), -15);
        due("4 the tape is empty behind a fault", x.count(3), 0);
        due("5 fault", x.fault(), 3);
        due("4 it stays", x.count(0), 5);
        due("5 book -1000 leaves it", x.book(2), -1000);
        due("5 book -1000 leaves it", x.fault(), 3);
        due("5 book clears it", x.book(0), -1);
        due("5 book clears it", x.fault(), 0);
        TestKit.sentence(x, "in 6");
        due("5 sentence", x.fault(), 2);
        TestKit.sentence(x, "in 5");
        due("5 sentence", x.fault(), 0);
        TestKit.book(x, "pair a", 0);
        due("5 book", x.fault(), 1);

        // a new NETWORK: nothing can be undone, no SENTENCE, nothing turned
        x = TestKit.of(ROW);
        x.grow(0);
        x.turn();
        TestKit.sentence(x, "lone");
        due("10 turned", x.now(5), 1);
        due("4 a faulty one leaves the SENTENCE", TestKit.network(x, "poin"), -1);
        due("4 a faulty one leaves the SENTENCE", x.said(-1), 0);
        due("4 another network", TestKit.network(x, RING), 6);
        due("4 no SENTENCE", x.said(-1), -1);
        due("4 nothing to undo", x.undo(), -1);
        due("4 nothing turned", x.now(5), 0);
    }

    // 6
    private static void points() {
        HeavyPairs x = TestKit.of(FIVE);
        due("6 partner", TestKit.point(x, 1, 0), 2);
        due("6 partner", TestKit.point(x, 2, 0), 1);
        due("6 lone", TestKit.point(x, 0, 0), -1);
        due("6 price", TestKit.point(x, 0, 1), 6);
        due("6 price without", TestKit.point(x, 4, 1), 0);
        due("6 linked", TestKit.point(x, 0, 2), 0b10110);
        due("6 linked", TestKit.point(x, 2, 2), 0b01011);
        due("6 tight", TestKit.point(x, 0, 3), 0b10000);
        due("6 tight", TestKit.point(x, 4, 3), 0b00001);
        due("6 tight", TestKit.point(x, 1, 3), 0);
        due("6 sets", TestKit.point(x, 0, 4), 0b11);
        due("6 sets", TestKit.point(x, 3, 4), 0b10);
        due("6 no such point", TestKit.point(x, 5, 0), THROWS);
        due("6 no such point", TestKit.point(x, -1, 0), THROWS);
        due("6 no such point", TestKit.point(x, Integer.MAX_VALUE, 0), THROWS);
        due("6 no such what", TestKit.point(x, 0, 5), THROWS);
        due("6 no such what", TestKit.point(x, 0, -1), THROWS);
    }

    // 7, 8, 9
    private static void linksAndSets() {
        HeavyPairs x = TestKit.of(FIVE);
        due("7 first", x.link(2, 0), 2);
        due("7 second", x.link(2, 1), 0);
        due("7 weight", x.link(2, 2), 6);
        due("7 pair", x.link(1, 3), 1);
        due("7 no pair", x.link(2, 3), 0);
        due("7 fate some", x.link(0, 4), 1);
        due("7 fate none", x.link(5, 4), 0);
        due("7 no such link", x.link(6, 0), -1);
        due("7 no such link", x.link(-1, 0), -1);
        due("7 no such what", x.link(0, 5), -1);
        due("7 no such what", x.link(0, -1), -1);
        due("8 slack", TestKit.slack(x, 0), -2);
        due("8 slack", TestKit.slack(x, 1), -14);
        due("8 slack", TestKit.slack(x, 3), -14);
        due("8 slack", TestKit.slack(x, 5), 0);
        due("8 no such", TestKit.slack(x, 6), THROWS);
        due("8 no such", TestKit.slack(x, -1), THROWS);
        due("9 members", x.odd(0, 0), 7);
        due("9 members", x.odd(1, 0), 31);
        due("9 price", x.odd(0, 1), 2);
        due("9 pairs within", x.odd(0, 2), 1);
        due("9 no such", x.odd(2, 0), -1);
        due("9 no such", x.odd(-1, 0), -1);
        due("9 no such what", x.odd(0, 3), -1);
        due("9 no such what", x.odd(0, -1), -1);

        // both sets count where they have both; fates follow weights
        x.crown(1, 3);
        due("8 both sets", TestKit.slack(x, 1), -11);
        due("8 one set", TestKit.slack(x, 4), -5);
        x.weigh(0, 1, 6);
        due("7 fate all", x.link(0, 4), 2);
        due("7 fate all", x.link(3, 4), 2);
        due("7 fate no more", x.link(1, 4), 0);
        due("9 a pair across", TestKit.network(x, "point a;point b;point c;point d;link a d 1;pair d a;odd 0 c b a;"), 7);
        due("9 a pair across", x.odd(0, 2), 0);
    }

    // 10
    private static void nowTold() {
        HeavyPairs x = TestKit.of(FIVE);
        due("10 total", x.now(0), 8);
        due("10 pairs", x.now(1), 1);
        due("10 lone", x.now(2), 0b11001);
        due("10 tight", x.now(3), 1 << 5);
        due("10 bound", x.now(4), 6 + 2);
        x.crown(1, 5);
        due("10 bound of five", x.now(4), 6 + 2 + 10);
        x.pair(3, 4);
        due("10 total", x.now(0), 12);
        due("10 pairs", x.now(1), 2);
        due("10 lone", x.now(2), 1);
        due("10 another what", x.now(7), -1);
        due("10 another what", x.now(-1), -1);
        x = TestKit.of(allLinks(1));
        due("10 thirty tight links", x.now(3), (1 << 30) - 1);
    }

    /** Ten POINTS priced 1, thirty LINKS of a WEIGHT. */
    private static String allLinks(int weight) {
        StringBuilder text = new StringBuilder();
        for (int p = 0; p < 10; p++) {
            text.append("point ").append((char) ('a' + p)).append(";price ").append((char) ('a' + p)).append(" 1;");
        }
        int links = 0;
        for (int p = 0; p < 10; p++) {
            for (int q = p + 1; q < 10 && links < 30; q++) {
                text.append("link ").append((char) ('a' + p)).append(' ').append((char) ('a' + q)).append(' ')
                        .append(weight).append(';');
                links++;
            }
        }
        return text.toString();
    }

    // 11, 12, 13
    private static void pairing() {
        HeavyPairs x = TestKit.of(FIVE);
        due("11 not linked", x.pair(0, 3), 1);
        due("11 one is paired", x.pair(0, 1), 2);
        due("11 the other is paired", x.pair(2, 3), 2);
        due("11 not linked ahead of paired", x.pair(1, 4), 1);
        due("11 alike", x.pair(3, 3), -1);
        due("11 no such", x.pair(0, 5), -1);
        due("11 no such", x.pair(-1, 0), -1);
        due("11 it is", x.pair(4, 3), 0);
        due("11 it is", TestKit.point(x, 3, 0), 4);
        due("11 it is", TestKit.point(x, 4, 0), 3);
        due("12 part", x.part(2), 0);
        due("12 both are lone", x.now(2), 0b00111);
        due("12 lone", x.part(1), 1);
        due("12 no such", x.part(5), -1);
        due("12 no such", x.part(-1), -1);
        due("13 weigh", x.weigh(1, 0, 99), 0);
        due("13 it is", x.link(0, 2), 99);
        due("13 that is the weight", x.weigh(0, 1, 99), 2);
        due("13 not linked", x.weigh(0, 3, 9), 1);
        due("13 alike", x.weigh(0, 0, 9), -1);
        due("13 weight 0", x.weigh(0, 1, 0), -1);
        due("13 weight 100", x.weigh(0, 1, 100), -1);
        due("13 no such", x.weigh(0, 5, 9), -1);
        due("13 least", x.weigh(0, 1, 1), 0);
        due("28 by links as they are", x.best(), 12);
    }

    // 14, 15, 16
    private static void pricing() {
        HeavyPairs x = TestKit.of(FIVE);
        due("14 price", x.price(1, 400), 0);
        due("14 it is", TestKit.point(x, 1, 1), 400);
        due("14 that is its price", x.price(1, 400), 1);
        due("14 above", x.price(1, 401), -1);
        due("14 below", x.price(1, -1), -1);
        due("14 no such", x.price(5, 1), -1);
        due("14 no such", x.price(-1, 1), -1);
        due("15 crown", x.crown(1, 400), 0);
        due("15 it is", x.odd(1, 1), 400);
        due("15 that is its price", x.crown(1, 400), 1);
        due("15 above", x.crown(1, 401), -1);
        due("15 below", x.crown(1, -1), -1);
        due("15 no such", x.crown(2, 1), -1);
        due("15 no such", x.crown(-1, 1), -1);
        due("16 its price is above 0", x.open(0), 1);
        due("16 no such", x.open(2), -1);
        due("16 no such", x.open(-1), -1);
        due("15 crown 0", x.crown(0, 0), 0);
        due("16 open", x.open(0), 0);
        due("16 those behind have numbers 1 less", x.odd(0, 0), 31);
        due("16 those behind have numbers 1 less", x.odd(0, 1), 400);
        due("16 none any more", x.odd(1, 0), -1);
        due("16 none any more", x.count(2), 1);
    }

    // 17, 18, 19
    private static void growing() {
        HeavyPairs x = TestKit.of(ROW);
        due("17 not lone", x.grow(1), -1);
        due("17 no such", x.grow(6), -1);
        due("17 no such", x.grow(-1), -1);
        due("17 path", x.grow(5), 5);
        for (int k = 0; k < 6; k++) {
            due("18 growAt " + k, x.growAt(k), 5 - k);
        }
        due("18 none such", x.growAt(6), -1);
        due("18 none such", x.growAt(-1), -1);
        due("17 NONE leaves it", x.grow(2), -1);
        due("18 NONE leaves it", x.growAt(1), 4);
        due("19 turn", x.turn(), 0);
        due("19 three pairs", x.now(1), 3);
        due("19 pairs turned", TestKit.point(x, 2, 0), 3);
        due("19 total", x.now(0), 12);
        due("10 paths turned", x.now(5), 1);
        due("19 none any more", x.turn(), 1);
        due("10 paths turned", x.now(5), 1);

        // fewest links, and of like ones the first point by point
        x = TestKit.of("point a;point b;point c;point d;point e;point f;link a e 1;link e f 1;pair e f;link f c 1;"
                + "link a b 1;link b d 1;pair b d;link d c 1;");
        due("17 the first of like ones", x.grow(0), 3);
        due("18 the first of like ones", x.growAt(1), 1);
        due("18 the first of like ones", x.growAt(2), 3);
        due("18 the first of like ones", x.growAt(3), 2);
        x = TestKit.of("point a;point b;point c;point d;link a b 1;link b c 1;link c d 1;pair b c;link a d 1;");
        due("17 the shortest", x.grow(0), 1);
        due("18 the shortest", x.growAt(1), 3);
        x.price(0, 9);
        due("19 prices are no matter", x.turn(), 0);

        // there may be shorter ones now, the path is one still
        x = TestKit.of("point a;point b;point c;point d;link a b 1;link b c 1;link c d 1;pair b c;link d a 1;pair a d;");
        due("17 none lone", x.grow(0), -1);
        x = TestKit.of("point a;point b;point c;point d;point e;link a b 1;link b c 1;link c d 1;pair b c;"
                + "link a e 1;pair a e;");
        x.part(0);
        due("17 one link", x.grow(0), 1);
        x.pair(0, 4);
        due("19 an end is paired", x.turn(), 1);
        x.part(4);
        due("19 it is one again", x.turn(), 0);

        // a path without a lone other end
        x = TestKit.of("point a;point b;point c;link a b 1;link b c 1;pair b c;");
        due("17 there is none", x.grow(0), -1);
        due("17 no links", TestKit.of("point a;point b;").grow(0), -1);

        // a longer path that stays one though a shorter one has come
        x = TestKit.of("point a;point b;point c;point d;point e;link a b 1;link b c 1;link c d 1;pair b c;"
                + "link a e 1;");
        due("17 to e", x.growAt(0), -1);
        x = TestKit.of("point a;point b;point c;point d;point e;point f;link a b 1;link b c 1;link c d 1;pair b c;"
                + "link a e 1;link e f 1;pair e f;");
        due("17 through b and c", x.grow(0), 3);
        x.part(5);
        due("19 though e is lone now", x.turn(), 0);
        due("19 a with b", TestKit.point(x, 0, 0), 1);

        // a path told is looked at by another network
        x = TestKit.of(ROW);
        x.grow(0);
        TestKit.network(x, "point a;point b;");
        due("18 stays", x.growAt(5), 5);
        due("19 no such points", x.turn(), 1);
        TestKit.network(x, ROW);
        due("19 one again", x.turn(), 0);
    }

    // 20, 21, 22
    private static void flowers() {
        HeavyPairs x = TestKit.of(FIVE);
        due("20 no flower", x.flower(3), -1);
        due("20 no such", x.flower(5), -1);
        due("20 no such", x.flower(-1), -1);
        due("20 flower", x.flower(0), 3);
        due("21 at", x.flowerAt(0), 0);
        due("21 at", x.flowerAt(1), 1);
        due("21 at", x.flowerAt(2), 2);
        due("21 none such", x.flowerAt(3), -1);
        due("21 none such", x.flowerAt(-1), -1);
        due("22 an odd set already", x.shrink(), 2);
        x.part(1);
        due("22 none any more", x.shrink(), 1);
        x.pair(1, 2);
        x.crown(0, 0);
        x.open(0);
        due("22 shrunk", x.shrink(), 0);
        due("22 it is one", x.odd(1, 0), 7);
        due("22 priced 0", x.odd(1, 1), 0);
        due("10 flowers shrunk", x.now(6), 1);
        due("22 already", x.shrink(), 2);
        due("10 flowers shrunk", x.now(6), 1);
        due("20 none leaves it", x.flower(3), -1);
        due("21 none leaves it", x.flowerAt(0), 0);

        // five points round a paired one; its own partner is never in it
        x = TestKit.of("point a;point b;point c;point d;point e;point f;link a b 1;link b c 1;link c d 1;link d e 1;"
                + "link e a 1;pair b c;pair d e;link a f 1;pair a f;");
        due("20 five", x.flower(0), 5);
        due("21 the first of like ones", x.flowerAt(1), 1);
        due("21 the first of like ones", x.flowerAt(4), 4);
        due("20 round the partner", x.flower(5), -1);
        due("20 inside", x.flower(1), -1);
        due("22 five shrunk", x.shrink(), 0);
        due("22 five shrunk", x.odd(0, 0), 0b11111);
        due("9 pairs within", x.odd(0, 2), 2);

        // fewest points first
        x = TestKit.of("point a;point b;point c;point d;point e;link a b 1;link b c 1;link c d 1;link d e 1;"
                + "link e a 1;pair b c;pair d e;link a d 1;");
        due("20 fewest", x.flower(0), 3);
        due("21 fewest", x.flowerAt(1), 3);
        due("21 fewest", x.flowerAt(2), 4);

        // six sets are the most
        x = TestKit.of("point a;point b;point c;point d;point e;link a b 1;link b c 1;link c a 1;pair b c;"
                + "odd 0 a b d;odd 0 a b e;odd 0 a d e;odd 0 b c d;odd 0 b c e;odd 0 c d e;");
        due("20 flower", x.flower(0), 3);
        due("22 six sets", x.shrink(), 3);
        x.part(1);
        due("22 the least", x.shrink(), 1);
        x.pair(1, 2);
        x.open(5);
        due("22 room again", x.shrink(), 0);
        due("22 already, though six", x.shrink(), 2);
    }

    // 23
    private static void undoing() {
        HeavyPairs x = TestKit.of(FIVE);
        for (int n = 1; n <= 9; n++) {
            x.price(4, n);
        }
        for (int n = 7; n >= 0; n--) {
            due("23 undo", x.undo(), n);
            due("23 price", TestKit.point(x, 4, 1), n + 1);
        }
        due("23 eight are kept", x.undo(), -1);
        due("23 nothing undone", TestKit.point(x, 4, 1), 1);
        x.price(4, 1);
        x.pair(0, 3);
        x.pair(0, 5);
        due("23 what was not done does not count", x.undo(), -1);
        x.price(4, 5);
        x.price(4, 6);
        due("23 undo", x.undo(), 1);
        x.price(4, 7);
        due("23 undo behind a new deed", x.undo(), 1);
        due("23 undo behind a new deed", TestKit.point(x, 4, 1), 5);
    }

    private static void undoOfAllDeeds() {
        HeavyPairs x = TestKit.of(FIVE);
        x.pair(3, 4);
        x.part(1);
        x.weigh(0, 1, 50);
        x.crown(0, 0);
        x.open(0);
        due("23 open", x.undo(), 4);
        due("23 open", x.odd(0, 0), 7);
        due("23 crown", x.undo(), 3);
        due("23 crown", x.odd(0, 1), 2);
        due("23 weigh", x.undo(), 2);
        due("23 weigh", x.link(0, 2), 5);
        due("28 best behind undo", x.best(), 12);
        due("23 part", x.undo(), 1);
        due("23 part", TestKit.point(x, 1, 0), 2);
        due("23 pair", x.undo(), 0);
        due("23 pair", TestKit.point(x, 3, 0), -1);

        x.grow(0);
        x.turn();
        due("10 turned", x.now(5), 1);
        due("23 turn", x.undo(), 0);
        due("23 turn", TestKit.point(x, 0, 0), -1);
        due("23 turned no more", x.now(5), 0);
        x.crown(0, 0);
        x.open(0);
        x.flower(0);
        due("22 shrink", x.shrink(), 0);
        due("23 shrink", x.undo(), 2 - 0);
        due("23 shrink", x.count(2), 1);
        due("23 shrunk no more", x.now(6), 0);

        x = TestKit.of(FIVE);
        due("41 lived", TestKit.book(x, "pair d e;price a 7;part a;", 1), 2);
        due("23 a book is one", x.undo(), 0);
        due("23 a book is one", x.now(0), 8);
        due("23 a book is one", TestKit.point(x, 0, 1), 6);
        due("41 none lived", TestKit.book(x, "part a;", 1), 0);
        due("23 no line lived", x.undo(), -1);
        due("41 judged", TestKit.book(x, "pair d e;", 0), -1);
        due("23 judged alone", x.undo(), -1);
        due("41 nothing to live", TestKit.book(x, "", 1), -1);
        due("23 nothing lived", x.undo(), -1);
        int done = x.drawn(60, 3);
        due("39 some done", done > 0, true);
        due("23 drawn is one", x.undo(), 0);
        due("23 drawn is one", x.now(0), 8);
        due("23 drawn is one", x.now(4), 8);
    }

    // 24, 25, 26
    private static void proofs() {
        HeavyPairs x = TestKit.of(FIVE);
        due("24 below 0", x.proof(), 1);
        due("25 the first link", x.proofAt(), 0);
        due("26 its slack", TestKit.proofBy(x), -2);
        x.price(0, 8);
        due("25 as it was then", x.proofAt(), 0);
        due("26 as it was then", TestKit.proofBy(x), -2);
        due("24 below 0", x.proof(), 1);
        due("25 the next link", x.proofAt(), 1);
        due("26 its slack", TestKit.proofBy(x), -14);

        x = TestKit.of("point a;point b;point c;point d;link a b 3;link c d 5;link b c 1;pair c d;pair a b;"
                + "price a 3;price b 3;price c 6;price d 5;");
        due("24 not tight", x.proof(), 2);
        due("25 the first", x.proofAt(), 1);
        due("26 slack", TestKit.proofBy(x), 1);
        x.price(2, 5);
        due("24 proven", x.proof(), 0);
        due("25 none", x.proofAt(), -1);
        due("26 throws", TestKit.proofBy(x), THROWS);
        due("10 the bound is twice the total", x.now(4), 2 * x.now(0));
        x.part(0);
        due("24 lone and priced", x.proof(), 3);
        due("25 the first point", x.proofAt(), 0);
        due("26 its price", TestKit.proofBy(x), 3);
        x.price(0, 1);
        x.price(1, 6);
        due("24 lone and priced 1", x.proof(), 3);
        due("26 lone and priced 1", TestKit.proofBy(x), 1);
        x.price(0, 0);
        due("24 lone and priced", x.proof(), 3);
        due("25 the first point", x.proofAt(), 1);
        due("26 its price", TestKit.proofBy(x), 6);

        // an odd set that is not full
        x = TestKit.of("point a;point b;point c;point d;link a b 2;link b c 2;link c a 2;odd 0 a b d;odd 4 a b c;");
        due("24 not full", x.proof(), 4);
        due("25 the odd set", x.proofAt(), 1);
        due("26 its price", TestKit.proofBy(x), 4);
        x.pair(0, 1);
        due("24 full", x.proof(), 0);
        due("10 bound", x.now(4), 4);
        // the first of these: a link below 0 goes ahead of all
        x.weigh(1, 2, 3);
        due("24 the least kind", x.proof(), 1);
        due("25 the link", x.proofAt(), 1);
    }

    // 27
    private static void rooms() {
        HeavyPairs x = TestKit.of("point a;point b;point c;point d;link a b 3;link a c 2;price a 9;price b 4;price c 3;"
                + "price d 7;");
        // slacks: 9 + 4 - 6 = 7, 9 + 3 - 4 = 8
        due("27 the least slack", x.room(0), 7);
        due("27 its whole price", x.room(1), 4);
        due("27 without links", x.room(3), 7);
        x.weigh(0, 1, 7);
        due("27 one is below 0", x.room(0), 0);
        due("27 one is below 0", x.room(1), 0);
        due("27 that one is not at it", x.room(2), 3);
        due("27 no such", x.room(4), -1);
        due("27 no such", x.room(-1), -1);
    }

    // 28, 29, 30, 31, 32
    private static void heaviest() {
        HeavyPairs x = TestKit.of(FIVE);
        due("28 best", x.best(), 12);
        int[] first = {1, 0, 3, 2, -1};
        for (int p = 0; p < 5; p++) {
            due("29 the least partners " + p, x.bestOf(p), first[p]);
        }
        due("29 no such", x.bestOf(5), -1);
        due("29 no such", x.bestOf(-1), -1);
        due("30 next", x.next(), 11);
        due("31 heavy 0", x.heavy(0), 0);
        due("31 heavy 1", x.heavy(1), 8);
        due("31 heavy 2", x.heavy(2), 12);
        due("31 heavy 3", x.heavy(3), -1);
        due("31 heavy -1", x.heavy(-1), -1);
        due("31 heavy most", x.heavy(Integer.MAX_VALUE), -1);
        due("32 ways 0", x.ways(0), 1);
        due("32 ways 1", x.ways(1), 6);
        due("32 ways 2", x.ways(2), 6);
        due("32 ways 3", x.ways(3), 0);
        due("32 ways -1", x.ways(-1), 0);
        x.weigh(1, 2, 20);
        due("29 by the latest best()", x.bestOf(0), 1);
        due("28 best", x.best(), 24);
        due("29 by the latest best()", x.bestOf(1), 2);
        TestKit.network(x, "point a;");
        due("29 as it was then", x.bestOf(1), 2);
        x.best();
        due("29 no such one then", x.bestOf(1), -1);
        due("30 none", x.next(), -1);

        // each new NETWORK is looked at anew, however like it is to the one ahead of it
        String[] texts = {"link a b 3;", "link a b 3;link b c 9;", "link a b 3;", "link a c 3;", "link b c 3;", "", "link b c 3;"};
        int[] tops = {3, 9, 3, 3, 3, 0, 3};
        int[] ofFirst = {1, -1, 1, 2, -1, -1, -1};
        int[] ofThird = {-1, 1, -1, 0, 1, -1, 1};
        for (int i = 0; i < texts.length; i++) {
            TestKit.network(x, "point a;point b;point c;" + texts[i]);
            due("28 anew " + texts[i], x.best(), tops[i]);
            due("29 anew " + texts[i], x.bestOf(0), ofFirst[i]);
            due("29 anew " + texts[i], x.bestOf(2), ofThird[i]);
            due("7 fate anew " + texts[i], x.link(0, 4), i == 1 ? 0 : i == 5 ? -1 : 2);
        }
        TestKit.network(x, "point a;point b;point c;point d;link b c 3;");
        due("34 one point more", TestKit.who(x, 3, 255), 1);
        x = new HeavyPairs();
        x.best();
        TestKit.network(x, "point a;");
        due("34 a point, no links as ahead of it", TestKit.who(x, 0, 255), 1);
        due("35 a point, no links as ahead of it", x.ask(), 0);

        // a lone point is behind all partners
        x = TestKit.of(RING);
        due("28 ring", x.best(), 2);
        due("29 ring", x.bestOf(0), 1);
        due("29 ring", x.bestOf(2), -1);
        due("30 ring", x.next(), 0);
        // fewer pairs can be heavier
        x = TestKit.of("point a;point b;point c;point d;link a b 3;link b c 9;link c d 3;");
        due("28 one pair", x.best(), 9);
        due("29 lone", x.bestOf(0), -1);
        due("29 one pair", x.bestOf(2), 1);
        due("31 two pairs", x.heavy(2), 6);
        due("30 next", x.next(), 6);
        x = TestKit.of(allLinks(99));
        due("28 many", x.best(), 99 * 4);
        due("32 many", x.ways(1), 30);
        due("31 many", x.heavy(5), -1);
    }

    // 33
    private static void gains() {
        HeavyPairs x = TestKit.of(FIVE);
        due("33 pair d and e", x.gain(), 4);
        x.part(1);
        due("33 pair b and c", x.gain(), 8);
        // a row with both ends at links of pairs
        x = TestKit.of("point a;point b;point c;point d;link a b 3;link b c 9;link c d 3;pair a b;pair c d;");
        due("33 ends at pairs", x.gain(), 3);
        // a row from a lone one that ends at a pair
        x = TestKit.of("point a;point b;point c;link a b 3;link b c 5;pair a b;");
        due("33 one end lone", x.gain(), 2);
        // an end at a link that was none must be lone
        x = TestKit.of("point a;point b;point c;point d;link a b 1;link c d 1;link b c 2;pair a b;pair c d;");
        due("33 nothing above", x.gain(), 0);
        // closed, of four links
        x = TestKit.of("point a;point b;point c;point d;link a b 1;link b c 4;link c d 1;link d a 4;pair a b;pair c d;");
        due("33 closed", x.gain(), 6);
        // a triangle is no closed row by turns
        x = TestKit.of("point a;point b;point c;link a b 5;link b c 4;link c a 4;pair a b;");
        due("33 triangle", x.gain(), 0);
        // two strokes are not one
        x = TestKit.of("point a;point b;point c;point d;link a b 5;link c d 6;");
        due("33 one stroke", x.gain(), 6);
        due("28 both", x.best(), 11);
        x = TestKit.of(ROW);
        due("33 none", x.gain(), 0);
        x.weigh(2, 3, 20);
        due("33 the middle against two", x.gain(), 20 + 4 + 4 - 18);
    }

    // 34, 35
    private static void whoAndAsk() {
        HeavyPairs x = TestKit.of(RING);
        due("34 a with b", TestKit.who(x, 0, 1), 1);
        due("34 the tape is empty", x.count(3), 0);
        due("35 all are told", x.ask(), 0);
        due("34 a is lone", TestKit.who(x, 0, 255), 1);
        due("34 a and b are lone", TestKit.who(x, 0, 255, 1, 255), 0);
        due("35 0 leaves it", x.ask(), 0);
        due("34 with itself", TestKit.who(x, 0, 0), 0);
        due("34 twice the same", TestKit.who(x, 0, 1, 1, 0, 0, 1), 1);
        due("34 against itself", TestKit.who(x, 0, 1, 0, 2), 0);
        due("34 nothing told", TestKit.who(x), -1);
        due("34 one byte", TestKit.who(x, 0), -1);
        due("34 three bytes", TestKit.who(x, 0, 1, 2), -1);
        due("34 no point", TestKit.who(x, 3, 1), -1);
        due("34 255 is no point", TestKit.who(x, 255, 0), -1);
        due("34 no partner", TestKit.who(x, 0, 3), -1);
        due("34 no partner", TestKit.who(x, 0, 254), -1);
        due("34 the tape is empty behind NONE", x.count(3), 0);
        due("34 six", TestKit.who(x, 0, 1, 0, 1, 0, 1, 0, 1, 0, 1, 0, 1), 1);
        due("34 seven", TestKit.who(x, 0, 1, 0, 1, 0, 1, 0, 1, 0, 1, 0, 1, 0, 1), -1);

        // e is always lone; d parts four in fewer than the others
        x = TestKit.of("point e;point a;point b;point c;point d;link a b 3;link b c 3;link c a 3;link c d 1;");
        due("28 best", x.best(), 4);
        due("34 e lone", TestKit.who(x, 0, 255), 1);
        x = TestKit.of("point z;point a;point b;point c;link a b 3;link b c 3;link c a 3;");
        due("34 three", TestKit.who(x, 0, 255), 3);
        due("35 the first that parts them", x.ask(), 1);
        due("34 b with c", TestKit.who(x, 2, 3), 1);
        due("35 one is left: the first", x.ask(), 0);
        due("34 three", TestKit.who(x, 0, 255), 3);
        x.weigh(1, 2, 9);
        due("35 by links as they were then", x.ask(), 1);
        TestKit.network(x, "");
        due("35 stays", x.ask(), 1);
        due("34 no points", TestKit.who(x, 0, 255), -1);
    }

    // 36
    private static void means() {
        HeavyPairs x = TestKit.of(FIVE);
        due("36 above", TestKit.mean(x, 0), 8);
        due("36 below", TestKit.mean(x, 1), 1);
        x.pair(3, 4);
        due("36 above", TestKit.mean(x, 0), 6);
        due("36 below", TestKit.mean(x, 1), 1);
        x.weigh(3, 4, 5);
        due("36 above", TestKit.mean(x, 0), 13);
        due("36 below", TestKit.mean(x, 1), 2);
        due("36 no such", TestKit.mean(x, 2), THROWS);
        due("36 no such", TestKit.mean(x, -1), THROWS);
        x.part(1);
        x.part(3);
        due("36 no pair", TestKit.mean(x, 0), THROWS);
        due("36 no pair", TestKit.mean(x, 1), THROWS);
        x = TestKit.of("point a;point b;point c;point d;point e;point f;point g;point h;"
                + "link a b 1;link c d 2;link e f 3;link g h 4;pair a b;pair c d;pair e f;pair g h;");
        due("36 least terms above", TestKit.mean(x, 0), 5);
        due("36 least terms below", TestKit.mean(x, 1), 2);
    }

    // 37, 38
    private static void tags() {
        HeavyPairs x = TestKit.of("point seventh;point bee;point z;link seventh bee 2;price seventh 400;price z 10;"
                + "pair seventh bee;");
        due("37 tag", TestKit.tagText(x, 0).equals("seventh with bee at 400"), true);
        due("37 tag", TestKit.tagText(x, 1).equals("bee with seventh at 0"), true);
        due("37 tag", TestKit.tagText(x, 2).equals("z lone at 10"), true);
        due("38 none such", x.byteAt(-1), -1);
        due("38 none such", x.byteAt(12), -1);
        due("38 the last", x.byteAt(11), '0');
        due("37 no such", x.tag(3), -1);
        due("37 no such", x.tag(-1), -1);
        due("38 the latest tag stays", x.byteAt(0), 'z');
        x.price(2, 400);
        due("38 as it was then", x.byteAt(10), '1');
        due("37 length", x.tag(2), 13);
        int[] prices = {0, 9, 10, 99, 100, 101, 399};
        for (int n : prices) {
            x.price(2, n);
            due("37 digits of " + n, TestKit.tagText(x, 2).equals("z lone at " + n), true);
        }
        due("37 longest", TestKit.tagText(TestKit.of("point abcdefg;point hijklmn;link abcdefg hijklmn 1;"
                + "pair abcdefg hijklmn;price abcdefg 123;"), 0).equals("abcdefg with hijklmn at 123"), true);
    }

    // 39, 40
    private static void draws() {
        HeavyPairs x = TestKit.of(FIVE);
        due("39 none", x.drawn(0, 1), -1);
        due("39 below", x.drawn(-1, 1), -1);
        due("39 above", x.drawn(61, 1), -1);
        // by hand: the seed's draws of 7, of 5 POINTS, 6 LINKS or 2 sets, and of 5, 30, 60 or 20
        drawnOnce("0 4 0: e with a", 83, 1, 0, 11);
        drawnOnce("0 4 4: alike", 24, 0, 0, 8);
        drawnOnce("0 3 0: not linked", 16, 0, 0, 8);
        drawnOnce("1 1: b is parted", 48, 1, 0, 0);
        drawnOnce("1 0: a is lone", 6, 0, 0, 8);
        drawnOnce("2 1 21: b and c weigh 22", 13, 1, 0, 22);
        drawnOnce("2 1 7: they weigh 8 already", 47, 0, 0, 8);
        drawnOnce("3 0 50: a is priced", 20, 1, 4, 52);
        drawnOnce("3 4 0: e has that price", 12, 0, 4, 8);
        drawnOnce("4 4: e grows to a", 11, 1, 0, 11);
        drawnOnce("4 1: b is not lone", 3, 0, 0, 8);
        drawnOnce("5 0: a grows to e", 51, 1, 5, 1);
        drawnOnce("6 1 5: the set of five", 8, 1, 4, 6 + 2 + 10);
        drawnOnce("6 0 6: the set of three", 9, 1, 4, 6 + 6);

        // a price alone can come of one POINT without LINKS and sets
        HeavyPairs y = TestKit.of("point a;");
        int done = y.drawn(60, 77);
        due("39 prices alone", done > 0, true);
        due("10 nothing paired", y.now(1), 0);
        due("39 priced below 60", TestKit.point(y, 0, 1) < 60, true);

        x = TestKit.of(FIVE);
        due("40 no such point", x.odds(5, 1, 1), -1);
        due("40 no such point", x.odds(-1, 1, 1), -1);
        due("40 n 0", x.odds(0, 0, 1), -1);
        due("40 n 21", x.odds(0, 21, 1), -1);
        for (int from = -3; from < 60; from += 7) {
            int paired = 0;
            for (int i = 0; i < 20; i++) {
                HeavyPairs z = TestKit.of(FIVE);
                z.drawn(12, from + i);
                paired += TestKit.point(z, 4, 0) != -1 ? 1 : 0;
            }
            due("40 as drawn", x.odds(4, 20, from), paired);
        }
        due("40 all stays", x.now(0), 8);
        due("40 all stays", x.undo(), -1);
        due("40 past the greatest seed", x.odds(4, 2, Integer.MAX_VALUE),
                x.odds(4, 1, Integer.MAX_VALUE) + x.odds(4, 1, Integer.MIN_VALUE));
    }

    private static void drawnOnce(String draws, int seed, int done, int what, int then) {
        HeavyPairs x = TestKit.of(FIVE);
        due("39 " + draws, x.drawn(1, seed), done);
        due("39 then " + draws, x.now(what), then);
        due("23 " + draws, x.undo(), done == 0 ? -1 : 0);
    }

    // 41, 42
    private static void books() {
        HeavyPairs x = TestKit.of(FIVE);
        due("41 judged", TestKit.book(x, "pair d e;price a 7;crown 1 4;", 0), -1);
        due("41 the tape is empty", x.count(3), 0);
        due("42 why", x.told(0), 0);
        due("42 lines", x.told(1), 3);
        due("42 total then", x.told(2), 12);
        due("42 bound then", x.told(3), 7 + 2 + 8);
        due("42 another what", x.told(4), -1);
        due("42 another what", x.told(-1), -1);
        due("41 all stays", x.now(0), 8);
        due("41 all stays", x.now(4), 8);
        due("41 lived as far", TestKit.book(x, "pair d e;part a;price a 7;", 1), 1);
        due("42 why", x.told(0), 11);
        due("42 lines", x.told(1), 1);
        due("42 total then", x.told(2), 12);
        due("42 bound then", x.told(3), 8);
        due("41 lived", x.now(0), 12);
        due("41 not behind", TestKit.point(x, 0, 1), 6);
        due("41 a fault", TestKit.book(x, "part a;pair a z;", 1), -2 - 14);
        due("42 of the latest without a fault", x.told(0), 11);
        due("41 nothing lived", x.now(0), 12);
        TestKit.tape(x, "part d;");
        due("41 another lives", x.book(2), -1000);
        due("41 another lives", x.book(-1), -1000);
        due("41 the tape stays", x.count(3), 7);
        due("42 told stays", x.told(0), 11);
        due("41 lived", x.book(1), -1);
        due("41 parted", TestKit.point(x, 4, 0), -1);
        due("41 no lines", x.book(0), -1);
        due("42 no lines", x.told(1), 0);
        due("42 no lines: total", x.told(2), 8);
    }

    private static void bookReasons() {
        HeavyPairs x = TestKit.of(ROW + "odd 3 a b c;");
        String[] texts = {"pair a c;", "pair a b;", "part a;", "weigh a c 3;", "weigh b a 4;", "price a 0;", "crown 0 3;",
            "crown 1 3;", "open 0;", "open 1;", "grow b;"};
        int[] reasons = {1, 2, 11, 21, 22, 31, 41, 49, 51, 59, 61};
        for (int i = 0; i < texts.length; i++) {
            due("41 " + texts[i], TestKit.book(x, texts[i], 0), 0);
            due("42 " + texts[i], x.told(0), reasons[i]);
            due("41 behind others " + texts[i], TestKit.book(x, "price f 9;weigh e f 8;" + texts[i], 0), 2);
            due("42 behind others " + texts[i], x.told(0), reasons[i]);
        }
        due("41 e was grown to", TestKit.book(x, "part c;part e;grow f;pair c d;grow e;", 0), 4);
        due("42 e was grown to", x.told(0), 61);
        due("41 opened twice", TestKit.book(x, "crown 0 0;open 0;open 0;", 0), 2);
        due("42 opened twice", x.told(0), 59);
        due("41 no path", TestKit.book(TestKit.of("point a;point b;"), "grow a;", 0), 0);
        x = TestKit.of("point a;point b;");
        TestKit.book(x, "grow a;", 1);
        due("42 no path", x.told(0), 62);

        // what grow() told stays; the path is turned and counted
        x = TestKit.of(ROW);
        x.grow(0);
        due("41 grow", TestKit.book(x, "grow f;", 1), -1);
        due("18 stays", x.growAt(0), 0);
        due("10 turned", x.now(5), 1);
        due("10 total", x.now(0), 12);
        due("41 judged grow", TestKit.book(x, "part a;grow a;", 0), -1);
        due("10 turned stays", x.now(5), 1);
    }

    // 43, 44
    private static void sentences() {
        HeavyPairs x = TestKit.of(FIVE);
        String[] texts = {"lone", "tight", "with b", "with a", "linked c", "in 0", "in 1", "in 2", "priced > 0", "priced = 0",
            "priced < 6", "links = 3", "links < 3", "weight > 0", "weight = 8", "weight = 0", "number < 2", "number = 4",
            "not lone", "lone and tight", "lone or tight", "lone and linked c or with c", "lone and (linked c or with c)",
            "not (lone or with b)", "not not in 0 and not number=0", "number > 999"};
        int[] bits = {0b11001, 0b10001, 0b00100, 0, 0b01011, 0b00111, 0b11111, 0, 0b00001, 0b11110,
            0b11110, 0b00101, 0b11010, 0b00110, 0b00110, 0b11001, 0b00011, 0b10000,
            0b00110, 0b10001, 0b11001, 0b01011, 0b01001,
            0b00010, 0b00110, 0};
        int[] ones = {1, 1, 1, 1, 1, 1, 1, 1, 1, 1,
            1, 1, 1, 1, 1, 1, 1, 1,
            2, 2, 2, 3, 4,
            4, 5, 1};
        for (int i = 0; i < texts.length; i++) {
            due("43 " + texts[i], TestKit.sentence(x, texts[i]), ones[i]);
            due("44 " + texts[i], TestKit.saidBits(x), bits[i]);
        }
        TestKit.sentence(x, "lone");
        due("43 the tape is empty", x.count(3), 0);
        due("44 how many", x.said(-1), 3);
        due("44 the first", x.said(0), 0);
        due("44 the second", x.said(1), 3);
        due("44 the third", x.said(2), 4);
        due("44 none such", x.said(3), -1);
        due("44 none such", x.said(-2), -1);
        due("44 none such", x.said(Integer.MAX_VALUE), -1);
        due("43 a fault", TestKit.sentence(x, "lone or"), -8);
        due("43 it stays", x.said(-1), 3);
        x.pair(3, 4);
        due("44 as it is now", x.said(-1), 1);
        TestKit.sentence(x, "in 1");
        x.crown(0, 0);
        x.open(0);
        due("44 no such set now", x.said(-1), 0);
        x.undo();
        due("44 it is again", x.said(-1), 5);
        due("43 on no points", TestKit.sentence(new HeavyPairs(), "not lone"), 2);
        x = new HeavyPairs();
        TestKit.sentence(x, "not lone");
        due("44 on no points", x.said(-1), 0);
        due("44 on no points", x.said(0), -1);
    }

    // 45, 46
    private static void images() {
        HeavyPairs x = TestKit.of(FIVE);
        TestKit.sentence(x, "lone");
        due("45 no such", x.image(2), false);
        due("45 no such", x.image(-1), false);
        due("46 nothing kept", x.restore(0), false);
        due("46 nothing kept", x.restore(1), false);
        due("46 no such", x.restore(2), false);
        due("46 no such", x.restore(-1), false);
        due("45 image", x.image(1), true);
        x.grow(0);
        x.turn();
        x.weigh(1, 2, 50);
        TestKit.sentence(x, "tight");
        due("45 image", x.image(0), true);
        due("45 nothing is forgotten", x.undo(), 1);
        x.best();
        x.proof();
        x.tag(1);
        TestKit.network(x, RING);
        TestKit.tape(x, "lo");
        due("46 restore", x.restore(1), true);
        due("46 the tape stays", x.count(3), 2);
        due("46 points", x.count(0), 5);
        due("46 total", x.now(0), 8);
        due("46 turned", x.now(5), 0);
        due("46 sentence", x.said(-1), 3);
        due("46 nothing can be undone", x.undo(), -1);
        due("46 told stays", x.bestOf(1), 0);
        due("46 told stays", x.proofAt(), 0);
        due("46 told stays", x.byteAt(0), 'b');
        due("46 told stays", x.growAt(1), 4);
        x.pair(3, 4);
        due("46 restore the other", x.restore(0), true);
        due("46 total", x.now(0), 50 + 3);
        due("46 turned", x.now(5), 1);
        due("46 sentence", TestKit.saidBits(x), 0b10001);
        due("46 nothing can be undone", x.undo(), -1);
        x.part(0);
        due("46 again", x.restore(0), true);
        due("46 again", TestKit.point(x, 0, 0), 4);
        due("28 best by links as restored", x.best(), 54);
        x = TestKit.of(FIVE);
        x.image(0);
        TestKit.sentence(x, "lone");
        x.restore(0);
        due("46 no sentence was kept", x.said(-1), -1);
    }

    // 47
    private static void counts() {
        HeavyPairs x = TestKit.of(FIVE);
        x.feed(0, 0, 0, 0, 0);
        due("47 points", x.count(0), 5);
        due("47 links", x.count(1), 6);
        due("47 sets", x.count(2), 2);
        due("47 bytes", x.count(3), 20);
        due("47 another what", x.count(4), -1);
        due("47 another what", x.count(-1), -1);
    }
}
