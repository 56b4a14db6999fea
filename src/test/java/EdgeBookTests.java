/** Edges of books, sentences and images (promises 41 to 47), and of a whole run: each begins with the words that it tests. */
public final class EdgeBookTests {
    private static final int LEAST = Integer.MIN_VALUE;
    private static final int MOST = Integer.MAX_VALUE;

    private static final String ABCD = TextKit.pointsText(4);
    /** b and c are a pair between a and d, which are lone; e is linked to none; two ODD sets. */
    private static final String SMALL = TextKit.pointsText(5)
            + "link a b 3;link b c 4;link c d 5;link a c 6;pair b c;price a 5;price b 1;odd 2 a b c;odd 0 b c d;";

    public static void main(String[] args) {
        EdgeKit.tests(EdgeKit.WHOLE, 41, 42, 43, 44, 45, 46, 47);
        judging();
        living();
        bookFaults();
        toldWhen();
        toldReasons();
        toldThen();
        sentences();
        said();
        images();
        restored();
        restoredNot();
        counts();
        manyCalls();
        EdgeKit.finish("EdgeBookTests");
    }

    private static void edge(int section, String quote) {
        EdgeKit.edge(section, quote);
    }

    private static void due(String call, long got, long want) {
        EdgeKit.due(call, got, want);
    }

    private static void due(String call, boolean got, boolean want) {
        EdgeKit.due(call, got, want);
    }

    private static void judging() {
        edge(41, "The tape is a BOOK: it is judged, all staying as it is (lives 0)");
        HeavyPairs x = TestKit.of(SMALL);
        x.price(4, 9);
        String ahead = TestKit.state(x);
        due("every deed", TestKit.book(x, "part b;pair a b;weigh c d 9;price a 7;crown 1 4;crown 1 0;open 1;grow c;", 0), -1);
        due("all were right", x.told(1), 8);
        due("all stays", TestKit.state(x).equals(ahead), true);
        due("the tape is empty", x.count(3), 0);
        due("no more to undo", x.undo(), 0);
        // each LINE is judged by those ahead of it
        due("parted once", TestKit.book(x, "part b;part b;", 0), 1);
        due("paired once", TestKit.book(x, "part b;pair a b;pair b c;", 0), 2);
        due("judged twice: nothing was lived", TestKit.book(x, "part b;", 0), TestKit.book(x, "part b;", 0));
    }

    private static void living() {
        edge(41, "or lived as far as it is not WRONG (1)");
        HeavyPairs x = TestKit.of(SMALL);
        due("two of four", TestKit.book(x, "price e 9;part b;part b;price e 8;", 1), 2);
        due("the first is lived", TestKit.point(x, 4, 1), 9);
        due("the second is lived", x.now(1), 0);
        x = TestKit.of(SMALL);
        String ahead = TestKit.state(x);
        due("none of two", TestKit.book(x, "part a;part b;", 1), 0);
        due("nothing is lived", TestKit.state(x).equals(ahead), true);
        due("all", TestKit.book(x, "part b;pair a b;weigh c d 9;price a 7;crown 1 4;crown 0 0;open 0;grow c;", 1), -1);
        due("pairs", x.now(0), 3 + 9);
        due("price", TestKit.point(x, 0, 1), 7);
        due("opened", x.count(2), 1);
        due("crowned", x.odd(0, 1), 4);
        due("turned", x.now(5), 1);

        edge(41, "the LINE that is WRONG");
        x = TestKit.of(SMALL);
        StringBuilder right = new StringBuilder();
        for (int line = 0; line < 40; line++) {
            due("line " + line, TestKit.book(TestKit.of(SMALL), right + "part a;", line % 2), line);
            right.append("price e ").append(line + 1).append(';');
            if (right.length() > 380) {
                break;
            }
        }
        due("the first of two", TestKit.book(x, "price e 1;part a;part d;", 0), 1);

        edge(41, "NONE: none");
        due("no lines", TestKit.book(x, "", 0), -1);
        due("no lines", TestKit.book(x, " \n", 1), -1);
        due("one", TestKit.book(x, "part b;", 1), -1);
    }

    private static void bookFaults() {
        edge(41, "-2 less the place of a FAULT");
        HeavyPairs x = TestKit.of(SMALL);
        String ahead = TestKit.state(x);
        due("at 0", TestKit.book(x, "a;", 1), -2);
        due("at 1", TestKit.book(x, " a;", 1), -3);
        due("behind a line that is right", TestKit.book(x, "part b;part z;", 1), -2 - 12);
        due("behind a line that is wrong", TestKit.book(x, "part a;part z;", 1), -2 - 12);
        due("at the end", TestKit.book(x, "part b;part", 1), -2 - 11);
        due("past the most", TestKit.book(x, TextKit.filled("part b;", 401), 1), -2 - 400);
        due("nothing is lived", TestKit.state(x).equals(ahead), true);
        due("the tape is empty", x.count(3), 0);

        edge(41, "-1000: another lives (the tape stays).");
        TestKit.tape(x, "part b;");
        for (int bad : new int[] {-1, 2, 3, LEAST, MOST}) {
            due("lives " + bad, x.book(bad), -1000);
            due("the tape stays", x.count(3), 7);
        }
        due("all stays", TestKit.state(x).equals(ahead), true);
        due("it can still be lived", x.book(1), -1);
        due("it is lived", x.now(1), 0);
        TestKit.tape(x, "par");
        due("a fault is not looked for", x.book(2), -1000);
    }

    private static void toldWhen() {
        edge(42, "Of the latest book() that had no FAULT (and was not -1000)");
        HeavyPairs x = TestKit.of(SMALL);
        TestKit.book(x, "price e 1;part a;", 0);
        due("why", x.told(0), 11);
        due("lines", x.told(1), 1);
        TestKit.book(x, "part b;part z;", 1);
        due("a fault leaves it", x.told(0), 11);
        due("a fault leaves it", x.told(1), 1);
        due("a fault leaves it", x.told(2), 4);
        TestKit.tape(x, "part b;");
        x.book(2);
        due("-1000 leaves it", x.told(0), 11);
        x.part(1);
        due("deeds leave it", x.told(2), 4);
        TestKit.network(x, ABCD);
        due("another network leaves it", x.told(3), 9);
        x.image(0);
        x.restore(0);
        due("restore leaves it", x.told(3), 9);
        TestKit.book(x, "", 1);
        due("the latest", x.told(0), 0);
        due("the latest", x.told(1), 0);
        due("the latest", x.told(2), 0);
        due("the latest", x.told(3), 0);
    }

    private static void why(String text, int reason) {
        for (int lives = 0; lives <= 1; lives++) {
            HeavyPairs x = TestKit.of(SMALL);
            due("line of " + text, TestKit.book(x, text, lives), reason == 0 ? -1 : 0);
            due("why of " + text, x.told(0), reason);
            due("line behind another of " + text, TestKit.book(x, "price e 77;" + text, lives), reason == 0 ? -1 : 1);
            due("why behind another of " + text, x.told(0), reason);
        }
    }

    private static void toldReasons() {
        edge(42, "0 why it was WRONG (0: it was not");
        due("right", TestKit.book(TestKit.of(SMALL), "part b;", 0), -1);
        why("", 0);

        edge(42, "1, 2 pairing");
        why("pair a d;", 1);
        why("pair b d;", 1);
        why("pair a b;", 2);
        why("pair b a;", 2);

        edge(42, "11 parting");
        why("part a;", 11);

        edge(42, "21, 22 weighing");
        why("weigh a d 3;", 21);
        why("weigh b a 3;", 22);

        edge(42, "31 pricing");
        why("price a 5;", 31);
        why("price c 0;", 31);

        edge(42, "41 crowning");
        why("crown 0 2;", 41);
        why("crown 1 0;", 41);

        edge(42, "51 opening");
        why("open 0;", 51);

        edge(42, "61, 62 growing");
        why("grow b;", 61);
        why("grow e;", 62);

        edge(42, "49, 59: there is no such ODD set)");
        for (int k = 2; k <= 5; k++) {
            why("crown " + k + " 0;", 49);
            why("open " + k + ";", 59);
        }
        HeavyPairs x = TestKit.of(SMALL);
        due("opened in the book", TestKit.book(x, "open 1;crown 1 3;", 0), 1);
        due("why", x.told(0), 49);
        due("opened twice", TestKit.book(x, "open 1;open 1;", 0), 1);
        due("why", x.told(0), 59);
    }

    private static void toldThen() {
        HeavyPairs x = TestKit.of(SMALL);
        edge(42, "1 LINES that are not");
        TestKit.book(x, "price e 1;price e 2;part a;price e 3;", 0);
        due("two", x.told(1), 2);
        TestKit.book(x, "price e 1;price e 2;price e 3;", 0);
        due("all three", x.told(1), 3);
        TestKit.book(x, "part a;price e 3;", 0);
        due("none", x.told(1), 0);

        edge(42, "2 TOTAL then, 3 BOUND then.");
        TestKit.book(x, "part b;pair a c;price e 10;crown 0 5;part e;crown 0 9;", 0);
        due("judged: total", x.told(2), 6);
        due("judged: bound", x.told(3), 5 + 1 + 10 + 5);
        due("judged: total stays", x.now(0), 4);
        due("judged: bound stays", x.now(4), 8);
        TestKit.book(x, "part b;pair a c;price e 10;crown 0 5;part e;crown 0 9;", 1);
        due("lived: total", x.told(2), 6);
        due("lived: bound", x.told(3), 21);
        due("lived: total now", x.now(0), 6);
        due("lived: bound now", x.now(4), 21);
        x.part(0);
        due("as it was then", x.told(2), 6);

        edge(42, "NONE: another what, or ahead of any.");
        for (int bad : new int[] {-1, 4, 5, LEAST, MOST}) {
            due("what " + bad, x.told(bad), -1);
        }
        x = TestKit.of(SMALL);
        for (int what = 0; what < 4; what++) {
            due("ahead of any: " + what, x.told(what), -1);
        }
        TestKit.book(x, "part", 0);
        x.book(5);
        due("a fault alone", x.told(0), -1);
    }

    private static void sentences() {
        edge(43, "The tape is the SENTENCE now");
        HeavyPairs x = TestKit.of(SMALL);
        TestKit.sentence(x, "lone");
        due("lone", TestKit.saidBits(x), 0b11001);
        due("the tape is empty", x.count(3), 0);
        TestKit.sentence(x, "number=2");
        due("another", TestKit.saidBits(x), 0b00100);

        edge(43, "how many ONES (each not, bracket and other one)");
        due("one", TestKit.sentence(x, "lone"), 1);
        due("a not and one", TestKit.sentence(x, "not lone"), 2);
        due("a bracket and one", TestKit.sentence(x, "(lone)"), 2);
        due("or and and are none", TestKit.sentence(x, "lone or tight and lone"), 3);
        due("measures are one each", TestKit.sentence(x, "priced<1 or links=2 or weight>3 or number<4"), 4);
        due("with, linked, in are one each", TestKit.sentence(x, "with a or linked b or in 3"), 3);
        due("all sorts", TestKit.sentence(x, "not (lone or not (tight and in 0)) and priced>0"), 8);

        edge(43, "-1 less the place of a FAULT: it stays.");
        TestKit.sentence(x, "number=2");
        due("at 0", TestKit.sentence(x, "a"), -1);
        due("at the end", TestKit.sentence(x, "lone or"), -8);
        due("behind more", TestKit.sentence(x, "lone or (tight and in 7)"), -1 - 22);
        due("it stays", TestKit.saidBits(x), 0b00100);
        due("the tape is empty", x.count(3), 0);
        HeavyPairs y = TestKit.of(SMALL);
        TestKit.sentence(y, "lone)");
        due("none stays none", y.said(-1), -1);
    }

    private static void said() {
        edge(44, "POINTS of which it may be said: how many (k NONE), or the k-th.");
        HeavyPairs x = TestKit.of(SMALL);
        TestKit.sentence(x, "lone");
        due("how many", x.said(HeavyPairs.NONE), 3);
        due("the first", x.said(0), 0);
        due("the second", x.said(1), 3);
        due("the third", x.said(2), 4);
        x.part(1);
        due("as it is now", x.said(-1), 5);
        due("as it is now", x.said(1), 1);
        x.undo();
        due("as it is behind undo", x.said(-1), 3);
        TestKit.sentence(x, "number>4");
        due("of none", x.said(-1), 0);
        TestKit.sentence(x, "number<5");
        due("of all", x.said(-1), 5);
        due("the last", x.said(4), 4);

        edge(44, "NONE: there is no SENTENCE, none such.");
        due("no sentence", TestKit.of(SMALL).said(-1), -1);
        due("no sentence", TestKit.of(SMALL).said(0), -1);
        for (int bad : new int[] {-2, 5, 6, LEAST, MOST}) {
            due("none such " + bad, x.said(bad), -1);
        }
        TestKit.sentence(x, "number>4");
        due("of none", x.said(0), -1);
        TestKit.network(x, SMALL);
        due("a new network has none", x.said(-1), -1);
    }

    private static void images() {
        edge(45, "NETWORK, all that is so and the SENTENCE are kept in place k (0, 1): true");
        HeavyPairs x = TestKit.of(SMALL);
        x.grow(0);
        x.turn();
        x.part(0);
        x.part(2);
        x.pair(0, 2);
        x.weigh(0, 1, 50);
        x.price(4, 60);
        x.crown(0, 7);
        x.open(1);
        TestKit.sentence(x, "with a");
        String ahead = TestKit.state(x);
        due("place 0", x.image(0), true);
        due("all stays", TestKit.state(x).equals(ahead), true);
        due("undo stays", x.undo(), 7);
        x.part(0);
        TestKit.sentence(x, "lone or tight");
        String then = TestKit.state(x);
        due("place 1", x.image(1), true);
        due("restore 0", x.restore(0), true);
        due("as in place 0", TestKit.state(x).equals(ahead), true);
        due("the sentence of place 0", TestKit.saidBits(x), 0b00100);
        due("restore 1", x.restore(1), true);
        due("as in place 1", TestKit.state(x).equals(then), true);
        due("kept anew", x.image(0), true);
        due("restore 0", x.restore(0), true);
        due("the latest is kept", x.now(1), 0);

        edge(45, "false: no such one.");
        for (int bad : new int[] {-1, 2, 3, LEAST, MOST}) {
            due("place " + bad, x.image(bad), false);
        }
    }

    private static void restored() {
        edge(46, "They are as kept in place k");
        HeavyPairs x = TestKit.of(SMALL);
        x.image(0);
        String ahead = TestKit.state(x);
        TestKit.network(x, TextKit.pointsText(10) + "link i j 5;odd 3 a b c;");
        TestKit.sentence(x, "lone");
        due("restore", x.restore(0), true);
        due("another network was there", TestKit.state(x).equals(ahead), true);
        due("names", TestKit.tagText(x, 4).equals("e lone at 0"), true);
        due("no sentence was kept", x.said(-1), -1);
        x.part(1);
        x.weigh(1, 2, 40);
        x.crown(0, 0);
        x.open(0);
        due("restore again", x.restore(0), true);
        due("deeds behind it do not touch what is kept", TestKit.state(x).equals(ahead), true);
        due("best by weights as they are", x.best(), 8);

        edge(46, "(the tape, and what other calls told last, stays");
        x = TestKit.of(SMALL);
        x.image(1);
        x.grow(3);
        x.flower(0);
        x.best();
        x.proof();
        x.tag(1);
        TestKit.book(x, "part a;", 0);
        TestKit.who(x, 4, 255);
        TestKit.sentence(x, "in 9");
        TestKit.tape(x, "part b;");
        x.restore(1);
        due("bytes", x.count(3), 7);
        due("fault", x.fault(), 2);
        due("grow", x.growAt(0), 3);
        due("flower", x.flowerAt(0), 0);
        due("best", x.bestOf(0), 1);
        due("proof", x.proofAt(), 1);
        due("slack", TestKit.proofBy(x), -5);
        due("tag", x.byteAt(0), 'b');
        due("book", x.told(0), 11);
        due("ask", x.ask(), 0);
        due("the tape can be lived", x.book(1), -1);

        edge(46, "nothing can be undone): true");
        x = TestKit.of(SMALL);
        x.price(0, 9);
        x.image(0);
        x.price(0, 10);
        due("restore", x.restore(0), true);
        due("nothing", x.undo(), -1);
        due("it stays", TestKit.point(x, 0, 1), 9);
        x.price(0, 11);
        due("a deed behind it", x.undo(), 0);
        due("it is undone", TestKit.point(x, 0, 1), 9);
    }

    private static void restoredNot() {
        edge(46, "false: no such one, or nothing is kept there.");
        HeavyPairs x = TestKit.of(SMALL);
        x.price(0, 9);
        due("nothing in 0", x.restore(0), false);
        due("nothing in 1", x.restore(1), false);
        x.image(1);
        due("still nothing in 0", x.restore(0), false);
        for (int bad : new int[] {-1, 2, 3, LEAST, MOST}) {
            due("place " + bad, x.restore(bad), false);
        }
        due("all stays", TestKit.point(x, 0, 1), 9);
        due("what can be undone stays", x.undo(), 0);
        due("in 1", x.restore(1), true);
        due("as kept", TestKit.point(x, 0, 1), 9);
        HeavyPairs y = new HeavyPairs();
        due("a network without points is kept, too", y.image(0), true);
        TestKit.network(y, SMALL);
        due("restore", y.restore(0), true);
        due("no points", y.count(0), 0);
    }

    private static void counts() {
        HeavyPairs x = TestKit.of(SMALL);
        edge(47, "0 POINTS, 1 LINKS, 2 ODD sets, 3 bytes of the tape.");
        x.feed(0, 0, 0, 0, 0);
        int[] counts = {5, 4, 2, 20};
        for (int what = 0; what < 4; what++) {
            due("count " + what, x.count(what), counts[what]);
        }
        x.open(1);
        due("opened", x.count(2), 1);
        x.undo();
        due("undone", x.count(2), 2);

        edge(47, "NONE for another what.");
        for (int bad : new int[] {-1, 4, 5, LEAST, MOST}) {
            due("what " + bad, x.count(bad), -1);
        }
    }

    private static void manyCalls() {
        edge(EdgeKit.WHOLE, "An object is used for at most 512 calls after it has been made");
        HeavyPairs x = new HeavyPairs();
        for (int n = 1; n <= 512; n++) {
            due("undo, call " + n, x.undo(), -1);
        }
        x = TestKit.of(SMALL);
        for (int n = 1; n <= 480; n++) {
            due("price, call " + n, x.price(4, n % 400 + 1), 0);
        }
        x = TestKit.of(SMALL);
        x.grow(0);
        for (int n = 1; n <= 160; n++) {
            due("turn " + n, x.turn(), 0);
            due("turned " + n, x.now(5), 1);
            due("undo " + n, x.undo(), 0);
        }
        x = TestKit.of(SMALL);
        for (int n = 1; n <= 240; n++) {
            due("weigh " + n, x.weigh(0, 1, n % 95 + 4), 0);
            due("best " + n, x.best(), n % 95 + 4 + 5);
        }
        // deep sentences and long books to the last call
        for (int n = 0; n < 11; n++) {
            x = TestKit.of(SMALL);
            for (int i = 0; i < 30; i++) {
                due("sentence " + i, TestKit.sentence(x, TextKit.repeated("not ", 7) + "lone"), 8);
                due("book " + i, TestKit.book(x, TextKit.repeated("grow e;", 20), 1), 0);
            }
        }

        edge(EdgeKit.WHOLE, "what later calls answer is free.");
        x = TestKit.of(SMALL);
        boolean fine = true;
        for (int n = 0; n < 700; n++) {
            try {
                x.price(4, n % 400 + 1);
            } catch (java.util.NoSuchElementException e) {
                fine = false;
            }
        }
        due("it throws nothing that it does not name", fine, true);
    }
}
