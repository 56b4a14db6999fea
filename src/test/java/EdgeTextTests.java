/** Edges of the texts, and of promises 1 to 5: each edge begins with the document's words that it tests. */
public final class EdgeTextTests {
    private static final int TEXTS = EdgeKit.TEXTS;
    private static final String ABC = TextKit.ABC;
    private static final String TEN = TextKit.pointsText(10);
    private static final String ABCD = ABC + "point d;";
    private static final String SIX_SETS = "odd 0 a b c;odd 0 a b d;odd 0 a b e;odd 0 a b f;odd 0 a b g;odd 0 a b h;";

    public static void main(String[] args) {
        EdgeKit.tests(TEXTS, 1, 2, 3, 4, 5);
        blanks();
        tokens();
        networkFrame();
        pointsAndLinks();
        pairsAndPrices();
        oddSets();
        namesAndMosts();
        bookFrame();
        bookLines();
        sentenceFrame();
        sentenceWords();
        sentenceMeasures();
        sentenceMosts();
        firstFault();
        faultsOfKindOne();
        whatCanComeInNetworks();
        whatCanComeInBooks();
        whatCanComeInSentences();
        faultsOfKindThree();
        faultsOfKindFour();
        newObject();
        feeding();
        ending();
        newNetwork();
        faultTold();
        EdgeKit.finish("EdgeTextTests");
    }

    private static void edge(int section, String quote) {
        EdgeKit.edge(section, quote);
    }

    private static void due(String call, long got, long want) {
        EdgeKit.due(call, got, want);
    }

    private static void due(String call, boolean got, boolean want) {
        EdgeKit.due(call, got, want);
    }

    private static boolean isBlank(int sign) {
        return sign == 32 || sign == 10;
    }

    private static boolean goesOn(int sign) {
        return sign >= 'a' && sign <= 'z' || sign >= '0' && sign <= '9';
    }

    private static void blanks() {
        edge(TEXTS, "TOKENS of all texts, with blanks (32, 10) between them or not");
        for (int sign = 0; sign < 256; sign++) {
            char c = (char) sign;
            HeavyPairs x = TestKit.of(ABC);
            int first = goesOn(sign) ? 0 : 4;
            due("book with sign " + sign, TestKit.book(x, "part" + c + "a;", 0), isBlank(sign) ? 0 : -2 - first);
            int end = sign == '(' ? 8 : goesOn(sign) ? 0 : 3;
            due("sentence with sign " + sign, TestKit.sentence(x, "not" + c + "lone"), isBlank(sign) ? 2 : -1 - end);
            int at = goesOn(sign) ? 0 : 5;
            due("network with sign " + sign, TestKit.network(x, "point" + c + "a;"), isBlank(sign) ? 1 : -1 - at);
            due("fault with sign " + sign, x.fault(), isBlank(sign) ? 0 : 1);
        }
        TextKit.goodNetwork(4, "\n \npoint \n a\n;\n\npoint b ; link  a\nb  7 ;pair b a;\n  ");
        TextKit.goodBook(-1, " \n pair\na\nb ;part a\n;\n");
        TextKit.goodSentence(9, "(priced<1)or(priced=1)or(priced>1)and not(lone)");
        TextKit.goodSentence(9, "\n( priced\n< 1 )\nor ( priced = 1 ) or ( priced > 1 ) and not ( lone ) \n");
    }

    private static void tokens() {
        edge(TEXTS, "WORDS: small letters, 1 to 7");
        TextKit.goodNetwork(5, "point a;point z;point az;point abcdefg;point zzzzzzz;");
        TextKit.faultyNetwork(1, "point ^abcdefgh;");
        for (String sign : new String[] {"A", "Z", "`", "{", "_", "@", "[", "\u00e1"}) {
            TextKit.faultyNetwork(1, "point ^" + sign + ";");
            TextKit.faultyNetwork(1, "point a^" + sign + ";");
        }
        HeavyPairs x = TestKit.of("point zzzzzzz;point zzzzzzy;point yzzzzzz;point z;point zz;point az;point za;");
        due("the longest", TestKit.tagText(x, 0).equals("zzzzzzz lone at 0"), true);
        due("unlike in the last letter", TestKit.tagText(x, 1).equals("zzzzzzy lone at 0"), true);
        due("unlike in the first letter", TestKit.tagText(x, 2).equals("yzzzzzz lone at 0"), true);
        due("found by its word", TestKit.book(x, "price yzzzzzz 1;price z 2;price az 3;price zzzzzzy 4;", 1), -1);
        int[] prices = {0, 4, 1, 2, 0, 3, 0};
        for (int p = 0; p < 7; p++) {
            due("price of " + p, TestKit.point(x, p, 1), prices[p]);
        }

        edge(TEXTS, "NUMBERS: 1 to 3 digits");
        for (String digits : new String[] {"7", "07", "007"}) {
            due("weight " + digits, TestKit.of(ABC + "link a b " + digits + ";").link(0, 2), 7);
        }
        due("three digits", TestKit.point(TestKit.of("point a;price a 098;"), 0, 1), 98);
        due("all digits", TestKit.point(TestKit.of("point a;price a 213;"), 0, 1), 213);
        TextKit.goodSentence(1, "priced<999");
        TextKit.faultySentence(1, "priced<^1000");
        TextKit.faultyNetwork(1, ABC + "link a b ^0007;");
        TextKit.faultyNetwork(1, ABC + "link a b ^12345678901234567890;");
        TextKit.faultyNetwork(1, ABC + "link a b ^/;");
        TextKit.faultyNetwork(1, ABC + "link a b ^:;");
        TextKit.faultyNetwork(1, ABC + "link a b ^-1;");

        edge(TEXTS, "(A WORD, NUMBER goes on as long as small letters and digits do");
        TextKit.faultySentence(1, "in ^5or lone");
        TextKit.faultySentence(1, "^lone1");
        TextKit.faultySentence(1, "not ^1lone");
        TextKit.faultyNetwork(1, ABC + "link a b ^4c;");
        TextKit.faultyNetwork(1, "point ^a1;");
        TextKit.faultyBook(1, "^parta;");
        TextKit.faultyBook(1, "part ^a2;");
        TextKit.goodSentence(3, "in 5 or(lone)");

        edge(TEXTS, "what is not as told is no TOKEN.)");
        TextKit.faultyNetwork(1, ABC + "link a ^bcdefghi 1;");
        TextKit.faultyNetwork(1, ABC + "link a b ^1000;");
        TextKit.faultyNetwork(1, "point a^.");
        TextKit.faultyNetwork(1, "point a^,point b;");
        TextKit.faultySentence(1, "priced ^! 5");
        TextKit.faultyBook(1, "part a;^\u0000");
    }

    private static void networkFrame() {
        edge(TEXTS, "A NETWORK is a text of at most 900 bytes");
        TextKit.goodNetwork(1, TextKit.filled("point a;", 900));
        TextKit.goodNetwork(1, TextKit.repeated(" ", 892) + "point a;");
        TextKit.goodNetwork(0, TextKit.repeated("\n", 900));
        TextKit.faultyNetwork(1, TextKit.filled("point a;", 900) + "^ ");
        TextKit.faultyNetwork(1, TextKit.repeated(" ", 893) + "point a^;");
        TextKit.faultyNetwork(1, TextKit.repeated(" ", 900) + "^" + TextKit.repeated(" ", 40));

        edge(TEXTS, "{ LINE ; }");
        TextKit.goodNetwork(0, "");
        TextKit.goodNetwork(0, " ");
        TextKit.goodNetwork(1, "point a;");
        TextKit.goodNetwork(2, "point a;point b;");
        TextKit.faultyNetwork(1, "^;");
        TextKit.faultyNetwork(1, "point a^");
        TextKit.faultyNetwork(1, "point a ^point b;");
        TextKit.faultyNetwork(1, "point a;^;");
        TextKit.faultyNetwork(1, "point a;point b^");
    }

    private static void pointsAndLinks() {
        edge(TEXTS, "LINE: 'point' NAME");
        due("points alone", TestKit.of(ABC).count(0), 3);
        TextKit.faultyNetwork(1, "point^;");
        TextKit.faultyNetwork(1, "point^");
        TextKit.faultyNetwork(1, "point a ^b;");
        TextKit.faultyNetwork(1, "point ^5;");
        TextKit.faultyNetwork(1, "^a;");

        edge(TEXTS, "'link' POINT POINT W");
        HeavyPairs x = TestKit.of(ABC + "link c a 12;");
        due("its first", x.link(0, 0), 2);
        due("its second", x.link(0, 1), 0);
        due("its weight", x.link(0, 2), 12);
        TextKit.faultyNetwork(1, ABC + "link^;");
        TextKit.faultyNetwork(1, ABC + "link a^;");
        TextKit.faultyNetwork(1, ABC + "link a b^;");
        TextKit.faultyNetwork(1, ABC + "link ^1 a b;");
        TextKit.faultyNetwork(1, ABC + "link a ^1 b;");
        TextKit.faultyNetwork(1, ABC + "link a b ^c 1;");
        TextKit.faultyNetwork(1, ABC + "link a b 1 ^1;");
        TextKit.faultyNetwork(1, ABC + "link a b 1^");

        edge(TEXTS, "(unlike");
        TextKit.faultyNetwork(3, ABC + "link a ^a 1;");
        TextKit.faultyNetwork(3, ABC + "link c ^c 1;");

        edge(TEXTS, "each two once, whichever first");
        TextKit.faultyNetwork(3, ABC + "link a b 1;link a ^b 1;");
        TextKit.faultyNetwork(3, ABC + "link a b 1;link b ^a 2;");
        TextKit.faultyNetwork(3, ABC + "link c a 1;link b c 1;link a ^c 1;");
        TextKit.goodNetwork(6, ABC + "link a b 1;link c b 1;link a c 1;");

        edge(TEXTS, "its WEIGHT: 1 to 99)");
        TextKit.faultyNetwork(2, ABC + "link a b ^0;");
        TextKit.faultyNetwork(2, ABC + "link a b ^000;");
        due("the least", TestKit.of(ABC + "link a b 1;").link(0, 2), 1);
        due("the greatest", TestKit.of(ABC + "link a b 99;").link(0, 2), 99);
        TextKit.faultyNetwork(2, ABC + "link a b ^100;");
        TextKit.faultyNetwork(2, ABC + "link a b ^999;");
    }

    private static void pairsAndPrices() {
        edge(TEXTS, "'pair' POINT POINT (linked");
        HeavyPairs x = TestKit.of(ABC + "link a b 1;pair b a;");
        due("paired", TestKit.point(x, 0, 0), 1);
        due("paired", TestKit.point(x, 1, 0), 0);
        TextKit.faultyNetwork(3, ABC + "link a b 1;pair a ^c;");
        TextKit.faultyNetwork(3, ABC + "pair a ^b;link a b 1;");
        TextKit.faultyNetwork(3, ABC + "link a b 1;pair a ^a;");
        TextKit.faultyNetwork(1, ABC + "link a b 1;pair a^;");
        TextKit.faultyNetwork(1, ABC + "link a b 1;pair a b ^c;");

        edge(TEXTS, "neither paired so far)");
        String row = ABCD + "link a b 1;link b c 1;link c d 1;";
        TextKit.faultyNetwork(3, row + "pair a b;pair b ^c;");
        TextKit.faultyNetwork(3, row + "pair a b;pair c ^b;");
        TextKit.faultyNetwork(3, row + "pair a b;pair a ^b;");
        TextKit.faultyNetwork(3, row + "pair a b;pair c d;pair b ^c;");
        TextKit.goodNetwork(9, row + "pair a b;pair d c;");

        edge(TEXTS, "'price' POINT N (0 to 400");
        due("the least", TestKit.point(TestKit.of("point a;price a 0;"), 0, 1), 0);
        due("the greatest", TestKit.point(TestKit.of("point a;price a 400;"), 0, 1), 400);
        TextKit.faultyNetwork(2, "point a;price a ^401;");
        TextKit.faultyNetwork(2, "point a;price a ^999;");
        TextKit.faultyNetwork(1, "point a;price a^;");
        TextKit.faultyNetwork(1, "point a;price ^4 a;");
        TextKit.faultyNetwork(1, "point a;price a 4 ^a;");

        edge(TEXTS, "once for each");
        TextKit.faultyNetwork(3, ABC + "price a 3;price ^a 3;");
        TextKit.faultyNetwork(3, ABC + "price a 0;price ^a 5;");
        TextKit.faultyNetwork(3, ABC + "price c 400;price b 1;price ^c 1;");
        TextKit.goodNetwork(6, ABC + "price a 3;price b 3;price c 3;");

        edge(TEXTS, "0 without)");
        x = TestKit.of(ABC + "price b 9;");
        due("a", TestKit.point(x, 0, 1), 0);
        due("b", TestKit.point(x, 1, 1), 9);
        due("c", TestKit.point(x, 2, 1), 0);
        TestKit.network(x, ABC);
        due("without, where another had one", TestKit.point(x, 1, 1), 0);
    }

    private static void oddSets() {
        edge(TEXTS, "'odd' N POINT POINT POINT { POINT }");
        TextKit.faultyNetwork(1, ABC + "odd^;");
        TextKit.faultyNetwork(1, ABC + "odd ^a b c;");
        TextKit.faultyNetwork(1, ABC + "odd 1 ^2 a b c;");
        TextKit.faultyNetwork(1, ABC + "odd 1 a b c ^2;");
        TextKit.faultyNetwork(1, ABC + "odd 1 a b c^");

        edge(TEXTS, "(an ODD set of 3, 5, 7 or 9 POINTS");
        for (int size = 0; size <= 10; size++) {
            StringBuilder text = new StringBuilder(TEN).append("odd 0");
            for (int p = 0; p < size; p++) {
                text.append(size == 10 && p == 9 ? " ^" : " ").append((char) ('a' + p));
            }
            if (size >= 3 && size % 2 == 1) {
                HeavyPairs x = TestKit.of(text + ";");
                due("a set of " + size, x.odd(0, 0), (1 << size) - 1);
                due("bound of " + size, x.crown(0, 1) + x.now(4), (size - 1) / 2);
            } else {
                TextKit.faultyNetwork(1, size == 10 ? text + ";" : text + "^;");
            }
        }

        edge(TEXTS, "each once");
        TextKit.faultyNetwork(3, ABC + "odd 1 a ^a b;");
        TextKit.faultyNetwork(3, ABC + "odd 1 a b ^a;");
        TextKit.faultyNetwork(3, ABCD + "odd 1 a b c d ^c;");

        edge(TEXTS, "in any order");
        due("backwards", TestKit.of(ABCD + "odd 1 d b a;").odd(0, 0), 0b1011);
        due("forwards", TestKit.of(ABCD + "odd 1 a b d;").odd(0, 0), 0b1011);
        TextKit.faultyNetwork(3, ABC + "odd 1 a b c;odd 1 c a b^;");

        edge(TEXTS, "no set told ahead");
        TextKit.faultyNetwork(3, ABC + "odd 1 a b c;odd 2 a b c^;");
        TextKit.faultyNetwork(3, ABCD + "odd 1 a b c;odd 1 a b d;odd 0 c b a^;");
        TextKit.goodNetwork(6, ABCD + "odd 1 a b c;odd 1 a b d;");
        // a set may have all of another one
        TextKit.goodNetwork(12, TEN + "odd 1 a b c;odd 1 a b c d e;");

        edge(TEXTS, "N: its price, 0 to 400");
        due("the least", TestKit.of(ABC + "odd 0 a b c;").odd(0, 1), 0);
        due("the greatest", TestKit.of(ABC + "odd 400 a b c;").odd(0, 1), 400);
        TextKit.faultyNetwork(2, ABC + "odd ^401 a b c;");
        TextKit.faultyNetwork(2, ABC + "odd ^999 a b c;");

        edge(TEXTS, "behind the ninth only ; can come");
        TextKit.goodNetwork(11, TEN + "odd 0 a b c d e f g h i;");
        TextKit.faultyNetwork(1, TEN + "odd 0 a b c d e f g h i ^j;");
        TextKit.faultyNetwork(1, TEN + "odd 0 a b c d e f g h i ^a;");
        TextKit.faultyNetwork(1, TEN + "odd 0 a b c d e f g h i ^k;");
        TextKit.faultyNetwork(1, TEN + "odd 0 a b c d e f g h i^");
        TextKit.faultyNetwork(3, TEN + "odd 0 a b c d e f g h i;odd 0 i h g f e d c b a^;");

        edge(TEXTS, "and only behind an odd one)");
        TextKit.faultyNetwork(1, ABCD + "odd 1 a^;");
        TextKit.faultyNetwork(1, ABCD + "odd 1 a b^;");
        TextKit.faultyNetwork(1, ABCD + "odd 1 a b c d^;");
        TextKit.faultyNetwork(1, TEN + "odd 1 a b c d e f^;");
        TextKit.faultyNetwork(1, TEN + "odd 1 a b c d e f g h^;");
    }

    private static void namesAndMosts() {
        edge(TEXTS, "N: 0 to 400 HALVES.");
        HeavyPairs x = TestKit.of(ABC + "link a b 3;price a 4;price b 1;odd 1 a b c;");
        due("six halves are three", TestKit.slack(x, 0), 0);

        edge(TEXTS, "NAME: a WORD, none of those told here, in a BOOK or a SENTENCE");
        for (String word : Plain.TOLD) {
            TextKit.faultyNetwork(1, "point ^" + word + ";");
            TextKit.faultyNetwork(1, ABC + "link ^" + word + " a 1;");
            TextKit.faultyNetwork(1, ABC + "odd 1 a b ^" + word + ";");
            TextKit.faultyBook(1, "grow ^" + word + ";");
            TextKit.faultySentence(1, "with ^" + word);
        }
        due("words that are told", Plain.TOLD.size(), 22);
        for (String word : new String[] {"points", "poin", "oint", "pairs", "odds", "o", "r", "orr", "i", "n", "inn", "lon", "e",
            "nott", "anda", "numbers", "linker", "word", "name", "line", "set", "best", "turn", "flower", "shrink"}) {
            TextKit.goodNetwork(2, "point " + word + ";price " + word + " 1;");
        }

        edge(TEXTS, "told once.");
        TextKit.faultyNetwork(3, "point a;point ^a;");
        TextKit.faultyNetwork(3, "point abcdefg;point abcdeff;point ^abcdefg;");

        edge(TEXTS, "10 POINTS");
        due("ten", TestKit.of(TEN).count(0), 10);
        TextKit.faultyNetwork(4, TEN + "^point k;");

        edge(TEXTS, "30 LINKS");
        due("thirty", TestKit.of(TEN + TextKit.linksText(30)).count(1), 30);
        TextKit.faultyNetwork(4, TEN + TextKit.linksText(30) + "^link i j 1;");

        edge(TEXTS, "6 ODD sets at most");
        due("six", TestKit.of(TEN + SIX_SETS).count(2), 6);
        TextKit.faultyNetwork(4, TEN + SIX_SETS + "^odd 0 a b i;");

        edge(TEXTS, "numbered from 0 each as told.");
        x = TestKit.of("point c;point a;link c a 3;point b;link b c 2;odd 5 b a c;price b 7;");
        due("first point", TestKit.tagText(x, 0).equals("c lone at 0"), true);
        due("last point", TestKit.tagText(x, 2).equals("b lone at 7"), true);
        due("first link", x.link(0, 2), 3);
        due("second link", x.link(1, 2), 2);
        x = TestKit.of(TEN + "odd 1 h i j;odd 2 a b c;odd 3 b c d;");
        for (int k = 0; k < 3; k++) {
            due("odd set " + k, x.odd(k, 1), k + 1);
        }
    }

    private static void bookFrame() {
        edge(TEXTS, "A BOOK is a text of at most 400 bytes");
        TextKit.goodBook(0, TextKit.filled("part a;", 400));
        TextKit.goodBook(0, TextKit.repeated(" ", 393) + "part a;");
        TextKit.goodBook(-1, TextKit.repeated(" ", 400));
        TextKit.faultyBook(1, TextKit.filled("part a;", 400) + "^ ");
        TextKit.faultyBook(1, TextKit.repeated(" ", 394) + "part a^;");

        edge(TEXTS, "{ LINE ; }, 40 at most");
        String forty = TextKit.repeated("grow d;", 40);
        TextKit.goodBook(-1, "");
        TextKit.goodBook(0, "grow d;");
        TextKit.goodBook(0, forty);
        TextKit.faultyBook(4, forty + "^grow d;");
        TextKit.faultyBook(1, "grow d^");
        TextKit.faultyBook(1, "grow d ^grow d;");
        TextKit.faultyBook(1, "^;");
        TextKit.faultyBook(1, "grow d;^;");
        HeavyPairs x = TestKit.of(TextKit.NET);
        StringBuilder prices = new StringBuilder();
        for (int n = 1; n <= 40; n++) {
            prices.append("price a ").append(n % 9).append(';');
        }
        due("forty are lived", TestKit.book(x, prices.toString(), 1), -1);
        due("forty are lived", x.told(1), 40);
        due("the fortieth", TestKit.point(x, 0, 1), 40 % 9);
    }

    private static void bookLines() {
        HeavyPairs x = TestKit.of(TextKit.NET);
        edge(TEXTS, "'pair' POINT POINT");
        due("pair", TestKit.book(x, "pair b a;", 1), -1);
        due("they are", TestKit.point(x, 0, 0), 1);
        TextKit.faultyBook(3, "pair a ^a;");
        TextKit.faultyBook(1, "pair a^;");
        TextKit.faultyBook(1, "pair a b ^c;");
        TextKit.goodBook(0, "pair a d;");

        edge(TEXTS, "'part' POINT");
        due("part", TestKit.book(x, "part b;", 1), -1);
        due("it is", TestKit.point(x, 0, 0), -1);
        TextKit.faultyBook(1, "part^;");
        TextKit.faultyBook(1, "part a ^b;");
        TextKit.faultyBook(3, "part ^e;");

        edge(TEXTS, "'weigh' POINT POINT W (1 to 99)");
        due("weigh", TestKit.book(x, "weigh b a 99;", 1), -1);
        due("it is", x.link(0, 2), 99);
        due("the least", TestKit.book(x, "weigh b a 1;", 1), -1);
        due("it is", x.link(0, 2), 1);
        TextKit.faultyBook(2, "weigh a b ^0;");
        TextKit.faultyBook(2, "weigh a b ^100;");
        TextKit.faultyBook(1, "weigh a b^;");
        TextKit.faultyBook(1, "weigh a ^5;");

        edge(TEXTS, "(unlike)");
        TextKit.faultyBook(3, "weigh c ^c 5;");
        TextKit.faultyBook(3, "weigh d ^d 0;");

        edge(TEXTS, "'price' POINT N");
        due("price", TestKit.book(x, "price d 400;", 1), -1);
        due("it is", TestKit.point(x, 3, 1), 400);
        due("the least, once more in one book", TestKit.book(x, "price d 1;price d 0;", 1), -1);
        due("it is", TestKit.point(x, 3, 1), 0);
        TextKit.faultyBook(2, "price a ^401;");
        TextKit.faultyBook(1, "price a^;");

        edge(TEXTS, "'crown' K N (K: 0 to 5; N: 0 to 400 each)");
        due("crown", TestKit.book(x, "crown 0 400;", 1), -1);
        due("it is", x.odd(0, 1), 400);
        due("the least", TestKit.book(x, "crown 0 0;", 1), -1);
        due("it is", x.odd(0, 1), 0);
        TextKit.goodBook(0, "crown 5 0;");
        TextKit.faultyBook(2, "crown ^6 0;");
        TextKit.faultyBook(2, "crown ^6 401;");
        // what is no K is no N either, though the LINE could end behind an N
        for (String number : new String[] {"6", "69", "400", "401", "999"}) {
            TextKit.faultyBook(2, "crown ^" + number + ";");
        }
        TextKit.faultyBook(2, "crown 0 ^401;");
        TextKit.faultyBook(2, "crown 5 ^401;");
        TextKit.faultyBook(1, "crown ^a 1;");
        TextKit.faultyBook(1, "crown 0^;");

        edge(TEXTS, "'open' K");
        due("open", TestKit.book(x, "open 0;", 1), -1);
        due("it is none any more", x.count(2), 0);
        TextKit.goodBook(0, "open 5;");
        TextKit.faultyBook(2, "open ^6;");
        TextKit.faultyBook(1, "open ^a;");
        TextKit.faultyBook(1, "open 0 ^0;");

        edge(TEXTS, "'grow' POINT.");
        due("grow", TestKit.book(x, "grow a;", 1), -1);
        due("it is turned", TestKit.point(x, 0, 0), 1);
        TextKit.faultyBook(3, "grow ^e;");
        TextKit.faultyBook(1, "grow ^0;");
        for (String word : new String[] {"point a", "link a b 1", "odd 0 a b c", "lone", "a", "5", "turn", "undo"}) {
            TextKit.faultyBook(1, "^" + word + ";");
        }
    }

    private static void said(HeavyPairs x, String text, int ones, int bits) {
        due("sentence " + text, TestKit.sentence(x, text), ones);
        due("said " + text, TestKit.saidBits(x), bits);
    }

    private static void sentenceFrame() {
        edge(TEXTS, "A SENTENCE is a text of at most 200 bytes");
        TextKit.goodSentence(1, TextKit.filled("lone", 200));
        TextKit.goodSentence(1, TextKit.repeated(" ", 196) + "lone");
        TextKit.faultySentence(1, TextKit.filled("lone", 200) + "^ ");
        TextKit.faultySentence(1, TextKit.repeated(" ", 197) + "lon^e");
        TextKit.faultySentence(1, TextKit.repeated(" ", 200) + "^ ");

        // a is lone and not tight, b and c are a pair and tight, d is lone and not tight
        HeavyPairs x = TestKit.of(ABCD + "link b c 3;price b 6;pair b c;link a c 5;");
        edge(TEXTS, "COND: ALL { 'or' ALL }.");
        said(x, "lone or tight", 2, 0b1111);
        said(x, "number=0 or number=1 or number=3", 3, 0b1011);
        TextKit.faultySentence(1, "^or lone");
        TextKit.faultySentence(1, "lone or^");
        TextKit.faultySentence(1, "lone or ^or lone");
        TextKit.faultySentence(1, "lone ^lone");

        edge(TEXTS, "ALL: ONE { 'and' ONE }.");
        said(x, "lone and number<3", 2, 0b0001);
        said(x, "lone and number<3 and number>0", 3, 0);
        said(x, "number=3 or lone and number=1", 3, 0b1000);
        said(x, "number=1 and lone or number=3", 3, 0b1000);
        TextKit.faultySentence(1, "^and lone");
        TextKit.faultySentence(1, "lone and^");
        TextKit.faultySentence(1, "lone and ^or lone");

        edge(TEXTS, "ONE: 'not' ONE");
        said(x, "not lone", 2, 0b0110);
        said(x, "not not lone", 3, 0b1001);
        said(x, "not lone and number=3", 3, 0);
        said(x, "not lone or number=3", 3, 0b1110);
        TextKit.faultySentence(1, "not^");
        TextKit.faultySentence(1, "not ^or");
        TextKit.faultySentence(1, "lone ^not lone");

        edge(TEXTS, "( COND )");
        said(x, "(lone)", 2, 0b1001);
        said(x, "(number=3 or lone) and number=0", 4, 0b0001);
        said(x, "not (lone and number=3)", 4, 0b0111);
        TextKit.faultySentence(1, "(^)");
        TextKit.faultySentence(1, "(lone^");
        TextKit.faultySentence(1, "lone^)");
        TextKit.faultySentence(1, "(lone ^(lone))");
    }

    private static void sentenceWords() {
        HeavyPairs x = TestKit.of(ABCD + "link a b 3;link b c 4;price a 5;price b 1;price c 8;pair b c;odd 1 b c d;");
        edge(TEXTS, "'lone'");
        said(x, "lone", 1, 0b1001);
        x.part(1);
        due("all are", TestKit.saidBits(x), 0b1111);
        x.undo();

        edge(TEXTS, "'tight' (some TIGHT LINK is at it)");
        // 5 + 1 - 6 is 0, 1 + 8 + 1 - 8 is 2
        said(x, "tight", 1, 0b0011);
        x.price(2, 6);
        due("both are", TestKit.saidBits(x), 0b0111);
        x.weigh(0, 1, 2);
        due("the other alone", TestKit.saidBits(x), 0b0110);
        x.crown(0, 0);
        due("none is", TestKit.saidBits(x), 0);

        edge(TEXTS, "'with' POINT (they are paired)");
        said(x, "with b", 1, 0b0100);
        said(x, "with c", 1, 0b0010);
        said(x, "with a", 1, 0);
        TextKit.faultySentence(1, "with^");
        TextKit.faultySentence(1, "with ^0");
        TextKit.faultySentence(3, "with ^e");

        edge(TEXTS, "'linked' POINT");
        said(x, "linked b", 1, 0b0101);
        said(x, "linked a", 1, 0b0010);
        said(x, "linked d", 1, 0);
        TextKit.faultySentence(1, "linked^");
        TextKit.faultySentence(3, "linked ^e");

        edge(TEXTS, "'in' K (it is in that ODD set: 0 to 5, else 2 at it");
        said(x, "in 0", 1, 0b1110);
        TextKit.goodSentence(1, "in 5");
        TextKit.faultySentence(2, "in ^6");
        TextKit.faultySentence(2, "in ^999");
        TextKit.faultySentence(1, "in^");
        TextKit.faultySentence(1, "in ^a");

        edge(TEXTS, "not so, if there is none)");
        for (int k = 1; k <= 5; k++) {
            said(x, "in " + k, 1, 0);
            said(x, "not in " + k, 2, 0b1111);
        }
        TestKit.sentence(x, "in 0");
        x.open(0);
        due("none any more", x.said(-1), 0);
    }

    private static void sentenceMeasures() {
        HeavyPairs x = TestKit.of(ABCD + "link a b 3;link b c 4;price a 5;price b 1;price c 400;pair b c;");
        edge(TEXTS, "( 'priced' | 'links' | 'weight' | 'number' ) SIGN NUMBER");
        for (String word : new String[] {"priced", "links", "weight", "number"}) {
            TextKit.goodSentence(1, word + "<0");
            TextKit.goodSentence(1, word + " = 999");
            TextKit.faultySentence(1, word + "^");
            TextKit.faultySentence(1, word + " ^5");
            TextKit.faultySentence(1, word + " ^( 5");
            TextKit.faultySentence(1, word + " < ^= 5");
            TextKit.faultySentence(1, word + " <^");
            TextKit.faultySentence(1, word + " < ^a");
            TextKit.faultySentence(1, word + " < 5 ^5");
        }

        edge(TEXTS, "(its price in HALVES");
        said(x, "priced=5", 1, 0b0001);
        said(x, "priced=400", 1, 0b0100);
        said(x, "priced=0", 1, 0b1000);

        edge(TEXTS, "how many LINKS are at it");
        said(x, "links=0", 1, 0b1000);
        said(x, "links=1", 1, 0b0101);
        said(x, "links=2", 1, 0b0010);

        edge(TEXTS, "the WEIGHT of its pair, 0 if it is lone");
        said(x, "weight=4", 1, 0b0110);
        said(x, "weight=3", 1, 0);
        said(x, "weight=0", 1, 0b1001);
        said(x, "weight>0", 1, 0b0110);

        edge(TEXTS, "its number).");
        said(x, "number=0", 1, 0b0001);
        said(x, "number=3", 1, 0b1000);
        said(x, "number=4", 1, 0);

        edge(TEXTS, "SIGN: < = >.");
        said(x, "number<2", 1, 0b0011);
        said(x, "number=2", 1, 0b0100);
        said(x, "number>2", 1, 0b1000);
        said(x, "number<0", 1, 0);
        said(x, "number>999", 1, 0);
        said(x, "number<999", 1, 0b1111);
    }

    private static void sentenceMosts() {
        edge(TEXTS, "20 ONES");
        TextKit.goodSentence(20, TextKit.repeated("lone or ", 19) + "lone");
        TextKit.goodSentence(20, TextKit.repeated("not tight and(lone)or ", 4) + "not tight or lone and tight");
        TextKit.faultySentence(4, TextKit.repeated("lone or ", 20) + "^lone");
        TextKit.faultySentence(4, TextKit.repeated("lone or ", 19) + "not ^lone");
        TextKit.faultySentence(4, TextKit.repeated("lone or ", 19) + "(^lone)");
        TextKit.faultySentence(4, TextKit.repeated("lone or ", 20) + "^(lone)");
        TextKit.faultySentence(4, TextKit.repeated("lone or ", 20) + "^in 6");

        edge(TEXTS, "8 within one another.");
        TextKit.goodSentence(8, TextKit.repeated("not ", 7) + "lone");
        TextKit.goodSentence(8, TextKit.repeated("(", 7) + "lone" + TextKit.repeated(")", 7));
        TextKit.goodSentence(9, TextKit.repeated("(", 7) + "lone or tight" + TextKit.repeated(")", 7));
        TextKit.goodSentence(16, TextKit.repeated("not ", 7) + "lone or " + TextKit.repeated("not ", 7) + "lone");
        TextKit.faultySentence(4, TextKit.repeated("not ", 8) + "^lone");
        TextKit.faultySentence(4, TextKit.repeated("(", 8) + "^lone" + TextKit.repeated(")", 8));
        TextKit.faultySentence(4, TextKit.repeated("(", 7) + "not ^lone" + TextKit.repeated(")", 7));
        TextKit.faultySentence(4, "lone and " + TextKit.repeated("(not ", 4) + "^lone" + TextKit.repeated(")", 4));

        edge(TEXTS, "It is said of POINTS.");
        HeavyPairs x = new HeavyPairs();
        due("of none", TestKit.sentence(x, "not lone"), 2);
        due("of none", x.said(-1), 0);
        TestKit.network(x, TEN);
        due("of ten", TestKit.sentence(x, "lone"), 1);
        due("of ten", x.said(-1), 10);
        due("of the last", x.said(9), 9);
    }

    private static void firstFault() {
        edge(TEXTS, "FAULTS, the first along the text");
        TextKit.faultyNetwork(3, ABC + "link a ^a 0;link");
        TextKit.faultyNetwork(2, ABC + "link a b ^0;link a a 0;");
        TextKit.faultyNetwork(4, TEN + "^point a");
        TextKit.faultyBook(3, "pair ^e e;pair a 5;");
        TextKit.faultyBook(2, "open ^9;&");
        TextKit.faultySentence(3, "with ^e or in 9 or");
        TextKit.faultySentence(2, "in ^9 or with e or");

        // what is due behind it can't make it good, nor a LINE of fewer TOKENS
        TextKit.faultyNetwork(3, ABC + "link ^e 5;");
        TextKit.faultyNetwork(3, ABC + "link ^e;");
        TextKit.faultyNetwork(1, ABC + "link ^5;");
        TextKit.faultyNetwork(1, ABC + "link a ^5;");
        TextKit.faultyNetwork(3, ABC + "link a ^e;");
        TextKit.faultyNetwork(3, ABC + "link a b 5;pair ^e;");
        TextKit.faultyNetwork(3, ABC + "link a b 5;pair ^e b;");
        TextKit.faultyNetwork(3, ABC + "price ^e;");
        TextKit.faultyNetwork(3, ABC + "price ^e a 5;");
        TextKit.faultyNetwork(2, ABC + "price a ^401");
        TextKit.faultyNetwork(2, ABC + "odd ^401;");
        TextKit.faultyNetwork(3, ABC + "odd 0 ^e;");
        TextKit.faultyNetwork(3, ABC + "odd 0 ^e a b c;");
        TextKit.faultyBook(3, "pair ^e;");
        TextKit.faultyBook(3, "pair ^e b;");
        TextKit.faultyBook(3, "pair a ^e;");
        TextKit.faultyBook(3, "weigh ^e 5;");
        TextKit.faultyBook(3, "weigh a ^e 5;");
        TextKit.faultyBook(3, "price ^e;");
        TextKit.faultyBook(1, "crown 0^;");
        TextKit.faultySentence(3, "with ^e and lone");
        TextKit.faultySentence(2, "in ^6 and lone");
        TextKit.faultySentence(1, "priced ^5 and lone");

        edge(TEXTS, "of one TOKEN the least");
        TextKit.faultyNetwork(1, ABC + "link a b ^1000;");
        TextKit.faultyNetwork(1, ABC + "link a ^lone 1;");
        TextKit.faultyNetwork(1, TEN + "odd 0 a b c d e f g h i ^a;");
        TextKit.faultyNetwork(1, TEN + "^points k;");
        TextKit.faultyBook(1, TextKit.repeated("part a;", 40) + "^point a;");
        TextKit.faultySentence(1, TextKit.repeated("lone or ", 20) + "^a");
        TextKit.faultySentence(1, TextKit.repeated("not ", 8) + "^or");
        TextKit.faultySentence(1, TextKit.repeated("not ", 8) + "^");
        TextKit.faultySentence(1, "in ^6000");
    }

    private static void faultsOfKindOne() {
        edge(TEXTS, "1 no TOKEN, or one that can't come (at it");
        TextKit.faultyNetwork(1, "  ^A");
        TextKit.faultyNetwork(1, "point a; ^<");
        TextKit.faultyNetwork(1, "point a ^=;");
        TextKit.faultyBook(1, "part a ; ^(");
        TextKit.faultyBook(1, "part ^) ;");
        TextKit.faultySentence(1, "lone ^;");
        TextKit.faultySentence(1, "lone or ^;");

        edge(TEXTS, "the end: how many bytes there are");
        TextKit.faultyNetwork(1, "point a^");
        TextKit.faultyNetwork(1, "point a  \n ^");
        TextKit.faultyBook(1, "part  ^");
        TextKit.faultySentence(1, "^");
        TextKit.faultySentence(1, "   ^");
        TextKit.faultySentence(1, "(lone  ^");
        TextKit.faultyNetwork(1, TextKit.filled("point", 900) + "^");
        TextKit.faultyBook(1, TextKit.filled("part", 400) + "^");
        TextKit.faultySentence(1, TextKit.filled("not", 200) + "^");

        edge(TEXTS, "the most bytes told, if there are more and no FAULT is ahead");
        TextKit.faultyNetwork(1, TextKit.filled("point a;", 900) + "^point a;");
        TextKit.faultyNetwork(1, TextKit.filled("point a", 900) + "^;");
        TextKit.faultyNetwork(1, TextKit.filled("point a;", 900) + "^&");
        TextKit.faultyNetwork(1, TextKit.filled("point ^A", 930));
        TextKit.faultyNetwork(3, TextKit.filled("point a;point ^a;", 930));
        TextKit.faultyBook(1, TextKit.filled("part a;", 400) + "^part a;");
        TextKit.faultyBook(1, TextKit.filled("part", 400) + "^ a;");
        TextKit.faultyBook(2, TextKit.filled("open ^6;", 930));
        TextKit.faultySentence(1, TextKit.filled("lone", 200) + "^or lone");
        TextKit.faultySentence(1, TextKit.filled("not", 200) + "^lone");
        TextKit.faultySentence(3, TextKit.filled("with ^e", 930));

        edge(TEXTS, "TOKENS that begin ahead of it are read whole)");
        // the last sign ahead of the most is the first of a word
        TextKit.faultyNetwork(3, TextKit.filled("point aaaaaaa;", 893) + "point ^aaaaaaa;");
        TextKit.faultyNetwork(1, TextKit.filled("point aaaaaaa;", 893) + "point b^bbbbbb;");
        TextKit.faultyNetwork(1, TextKit.filled("point aaaaaaa;", 893) + "point ^bbbbbbbb;");
        TextKit.faultyNetwork(2, TextKit.filled(ABC, 890) + "link a b ^100;");
        TextKit.faultyNetwork(1, TextKit.filled(ABC, 890) + "link a b 1^1;");
        TextKit.faultyNetwork(1, TextKit.filled("point aaaaaaa;", 894) + "point ^aaaaaaa;");
        TextKit.faultyBook(1, TextKit.filled("part a;", 399) + "p^art a;");
        TextKit.faultyBook(1, TextKit.filled("part a;", 399) + "^parts a;");
        TextKit.faultyBook(1, TextKit.filled("part a;", 400) + "^part a;");
        TextKit.faultySentence(1, TextKit.filled("lone", 199) + "o^r lone");
        TextKit.faultySentence(1, TextKit.filled("lone", 199) + "^lone");
        TextKit.faultySentence(2, TextKit.filled("in", 199) + "^99");
        TextKit.faultySentence(3, TextKit.filled("with", 199) + "^ee");

        edge(TEXTS, "2 a NUMBER that is not as told (at it)");
        TextKit.faultyNetwork(2, ABC + "link a b  ^0 ;");
        TextKit.faultyNetwork(2, ABC + "price a ^500;");
        TextKit.faultyNetwork(2, ABC + "odd\n^401 a b c;");
        TextKit.faultyBook(2, "weigh a b ^100;");
        TextKit.faultyBook(2, "crown ^6 0;");
        TextKit.faultySentence(2, "lone or in ^7");
    }

    private static void whatCanComeInNetworks() {
        edge(TEXTS, "1 no TOKEN, or one that can't come (at it");
        String[] firsts = {"point", "link", "pair", "price", "odd", "end"};
        String linked = ABC + "link a b 1;";
        TextKit.onlyThese('n', "", firsts);
        TextKit.onlyThese('n', ABC, firsts);
        TextKit.onlyThese('n', ABC + "point", "a");
        TextKit.onlyThese('n', ABC + "point d", ";");
        TextKit.onlyThese('n', ABC + "link", "a");
        TextKit.onlyThese('n', ABC + "link b", "a");
        TextKit.onlyThese('n', ABC + "link b a", "5");
        TextKit.onlyThese('n', ABC + "link b a 5", ";");
        TextKit.onlyThese('n', linked + "pair", "a");
        TextKit.onlyThese('n', linked + "pair b", "a");
        TextKit.onlyThese('n', linked + "pair b a", ";");
        TextKit.onlyThese('n', ABC + "price", "a");
        TextKit.onlyThese('n', ABC + "price a", "5");
        TextKit.onlyThese('n', ABC + "price a 5", ";");
        TextKit.onlyThese('n', TEN + "odd", "5");
        TextKit.onlyThese('n', TEN + "odd 5", "a");
        TextKit.onlyThese('n', TEN + "odd 5 b", "a");
        TextKit.onlyThese('n', TEN + "odd 5 b c", "a");
        TextKit.onlyThese('n', TEN + "odd 5 b c d", "a", ";");
        TextKit.onlyThese('n', TEN + "odd 5 b c d e", "a");
        TextKit.onlyThese('n', TEN + "odd 5 b c d e f", "a", ";");
        TextKit.onlyThese('n', TEN + "odd 5 b c d e f g", "a");
        TextKit.onlyThese('n', TEN + "odd 5 b c d e f g h", "a", ";");
        TextKit.onlyThese('n', TEN + "odd 5 b c d e f g h i", "a");
        TextKit.onlyThese('n', TEN + "odd 5 b c d e f g h i j", ";");
    }

    private static void whatCanComeInBooks() {
        edge(TEXTS, "1 no TOKEN, or one that can't come (at it");
        String[] firsts = {"pair", "part", "weigh", "price", "crown", "open", "grow", "end"};
        TextKit.onlyThese('b', "", firsts);
        TextKit.onlyThese('b', "open 0;", firsts);
        TextKit.onlyThese('b', "pair", "a");
        TextKit.onlyThese('b', "pair b", "a");
        TextKit.onlyThese('b', "pair b a", ";");
        TextKit.onlyThese('b', "part", "a");
        TextKit.onlyThese('b', "part b", ";");
        TextKit.onlyThese('b', "weigh", "a");
        TextKit.onlyThese('b', "weigh b", "a");
        TextKit.onlyThese('b', "weigh b a", "5");
        TextKit.onlyThese('b', "weigh b a 5", ";");
        TextKit.onlyThese('b', "price", "a");
        TextKit.onlyThese('b', "price a", "5");
        TextKit.onlyThese('b', "price a 5", ";");
        TextKit.onlyThese('b', "crown", "5");
        TextKit.onlyThese('b', "crown 5", "5");
        TextKit.onlyThese('b', "crown 5 5", ";");
        TextKit.onlyThese('b', "open", "5");
        TextKit.onlyThese('b', "open 5", ";");
        TextKit.onlyThese('b', "grow", "a");
        TextKit.onlyThese('b', "grow a", ";");
    }

    private static void whatCanComeInSentences() {
        edge(TEXTS, "1 no TOKEN, or one that can't come (at it");
        String[] ones = {"not", "(", "lone", "tight", "with", "linked", "in", "priced", "links", "weight", "number"};
        for (String ahead : new String[] {"", "not", "not not", "(", "((", "lone and", "lone or", "(lone or", "not(tight and"}) {
            TextKit.onlyThese('s', ahead, ones);
        }
        for (String whole : new String[] {"lone", "tight", "with a", "linked a", "in 5", "priced<5", "links=5", "weight>5", "number<5"}) {
            TextKit.onlyThese('s', whole, "and", "or", "end");
            TextKit.onlyThese('s', "not " + whole, "and", "or", "end");
            TextKit.onlyThese('s', "(" + whole + ")", "and", "or", "end");
            TextKit.onlyThese('s', "(" + whole, "and", "or", ")");
            TextKit.onlyThese('s', "lone and(tight or " + whole, "and", "or", ")");
        }
        TextKit.onlyThese('s', "with", "a");
        TextKit.onlyThese('s', "linked", "a");
        TextKit.onlyThese('s', "in", "5");
        for (String measure : new String[] {"priced", "links", "weight", "number"}) {
            TextKit.onlyThese('s', measure, "<", "=", ">");
            TextKit.onlyThese('s', measure + "<", "5");
            TextKit.onlyThese('s', measure + "=", "5");
            TextKit.onlyThese('s', measure + ">", "5");
        }
    }

    private static void faultsOfKindThree() {
        edge(TEXTS, "3 a NAME told twice, not told, or of another sort");
        TextKit.faultyNetwork(3, "point a;point ^a;");
        TextKit.faultyNetwork(3, ABC + "link ^d a 1;");
        TextKit.faultyNetwork(3, ABC + "link a ^d 1;");
        TextKit.faultyNetwork(3, ABC + "link a ^d 1;point d;");
        TextKit.faultyNetwork(3, ABC + "pair ^d a;");
        TextKit.faultyNetwork(3, ABC + "price ^d 1;");
        TextKit.faultyNetwork(3, ABC + "odd 1 a b ^d;");
        TextKit.faultyBook(3, "pair a ^e;");
        TextKit.faultyBook(3, "weigh ^e a 1;");
        TextKit.faultyBook(3, "price ^e 1;");
        TextKit.faultySentence(3, "linked ^e");

        edge(TEXTS, "the second of two POINTS that are alike");
        TextKit.faultyNetwork(3, ABC + "link b ^b 1;");
        TextKit.faultyNetwork(3, ABC + "pair b ^b;");
        TextKit.faultyBook(3, "pair b ^b;");
        TextKit.faultyBook(3, "weigh b ^b 1;");

        edge(TEXTS, "of a 'link' that are linked");
        TextKit.faultyNetwork(3, ABC + "link a b 1;link b ^a 1;");

        edge(TEXTS, "of a 'pair' that are not linked or of which one is paired");
        TextKit.faultyNetwork(3, ABC + "link a b 1;pair b ^c;");
        TextKit.faultyNetwork(3, ABC + "link a b 1;link b c 1;pair a b;pair b ^c;");
        TextKit.faultyNetwork(3, ABC + "link a b 1;link b c 1;pair a b;pair c ^b;");
        // in a BOOK that is WRONG, no FAULT
        TextKit.goodBook(0, "pair a c;");
        TextKit.goodBook(1, "pair a b;pair b c;");

        edge(TEXTS, "a POINT priced once more");
        TextKit.faultyNetwork(3, ABC + "price b 0;price ^b 401;");
        TextKit.goodBook(-1, "price b 1;price b 2;");

        edge(TEXTS, "told once more in an ODD set (at it)");
        TextKit.faultyNetwork(3, ABC + "odd 0 a b ^b;");
        TextKit.faultyNetwork(3, ABC + "odd 0 a b c ^a;");

        edge(TEXTS, "an ODD set told once more (at the ;)");
        TextKit.faultyNetwork(3, ABC + "odd 0 a b c;odd 0 a c b  ^;");
        TextKit.faultyNetwork(1, ABC + "odd 0 a b c;odd 0 a c b^");
        TextKit.faultyNetwork(1, ABC + "odd 0 a b c;odd 0 a c b ^1;");
    }

    private static void faultsOfKindFour() {
        edge(TEXTS, "4 one more than there may be of a sort");
        TextKit.faultyNetwork(4, TEN + "  ^point k;");
        TextKit.faultyNetwork(4, TEN + "^point");
        TextKit.faultyNetwork(4, TEN + TextKit.linksText(30) + "\n^link a a 1;");
        TextKit.faultyNetwork(4, TEN + SIX_SETS + " ^odd 0 a b c;");
        TextKit.goodNetwork(18, TEN + SIX_SETS + "price a 1;price b 1;");

        edge(TEXTS, "a 41st LINE of a BOOK (at the LINE's first WORD)");
        TextKit.faultyBook(4, TextKit.repeated("part a;", 40) + " ^part a;");
        TextKit.faultyBook(4, TextKit.repeated("part a;", 40) + "^part e;");
        TextKit.faultyBook(4, TextKit.repeated("part a;", 40) + "^part");
        TextKit.faultyBook(1, TextKit.repeated("part a;", 40) + "^;");

        edge(TEXTS, "a 21st ONE");
        TextKit.faultySentence(4, TextKit.repeated("lone or ", 20) + " ^tight");
        TextKit.faultySentence(4, TextKit.repeated("lone or ", 20) + "^with e");

        edge(TEXTS, "a ninth within (at its first TOKEN)");
        TextKit.faultySentence(4, TextKit.repeated("not ", 8) + "^with e");
        TextKit.faultySentence(4, TextKit.repeated("(", 8) + " ^in 9");
        TextKit.faultySentence(4, TextKit.repeated("(", 8) + "^(");
    }

    private static void newObject() {
        edge(1, "A NETWORK without POINTS");
        HeavyPairs x = new HeavyPairs();
        due("points", x.count(0), 0);
        due("links", x.count(1), 0);
        due("odd sets", x.count(2), 0);
        for (int what = 0; what < 7; what++) {
            due("now " + what, x.now(what), 0);
        }
        due("no point", TestKit.point(x, 0, 0), TestKit.THROWS);
        due("no link", x.link(0, 0), -1);
        due("no odd set", x.odd(0, 0), -1);
        due("no name is told", TestKit.book(x, "part a;", 0), -2 - 5);
        due("no sentence", x.said(-1), -1);

        edge(1, "an empty tape");
        due("bytes", new HeavyPairs().count(3), 0);
        due("end of one", new HeavyPairs().end(1), false);
        due("an empty network", new HeavyPairs().network(), 0);
    }

    private static HeavyPairs withBytes(int many) {
        HeavyPairs x = new HeavyPairs();
        for (int n = 0; n < many; n += 20) {
            x.feed(0, 0, 0, 0, 0);
        }
        x.end(many);
        return x;
    }

    private static void feeding() {
        edge(2, "Twenty bytes come behind the tape");
        HeavyPairs x = new HeavyPairs();
        due("to an empty one", x.feed(0, 0, 0, 0, 0), 20);
        due("behind 20", x.feed(0, 0, 0, 0, 0), 40);
        x.end(1);
        due("behind 1", x.feed(0, 0, 0, 0, 0), 21);
        // 20 bytes that go on with the first
        x = new HeavyPairs();
        x.feed(0x706f696e, 0x74000000, 0, 0, 0);
        x.end(5);
        x.feed(0x20612020, 0x20202020, 0x20202020, 0x20202020, 0x2020203b);
        due("behind what is kept", x.network(), 1);

        edge(2, "of each number the highest first");
        // 00 01, 01 02, ff: each place of a number, and a byte above 127
        String[] texts = {"point a;point b;point", " c;link a b 1;link b", " c 1;link c a 1;"};
        x = TestKit.of(texts[0] + texts[1] + texts[2]);
        x.feed(0x00010203, 0xff000000, 0, 0, 0);
        x.end(2);
        due("0 with 1", x.who(), 1);
        x.feed(0x00ff0000, 0, 0, 0, 0);
        x.end(2);
        due("0 lone", x.who(), 1);
        x.feed(0x000102ff, 0, 0, 0, 0);
        x.end(4);
        due("0 with 1, 2 lone", x.who(), 1);
        x.feed(0xff020100, 0, 0, 0, 0);
        x.end(2);
        due("255 is no point", x.who(), -1);
        x.feed(0x706f696e, 0x74206464, 0x64656565, 0x65203b20, 0x20202020);
        due("all five numbers in their order", x.network(), 1);
        due("all five numbers in their order", TestKit.tagText(x, 0).equals("dddeeee lone at 0"), true);
        x.feed(0x20202020, 0x20202020, 0x20202020, 0x706f696e, 0x7420663b);
        due("the last two", x.network(), 1);

        edge(2, "how many it has");
        x = new HeavyPairs();
        for (int n = 1; n <= 47; n++) {
            due("feed " + n, x.feed(n, n, n, n, n), 20 * n);
            due("count " + n, x.count(3), 20 * n);
        }

        edge(2, "NONE, and none come, if it would have more than 940");
        due("to 940", withBytes(920).feed(0, 0, 0, 0, 0), 940);
        for (int many = 921; many <= 940; many++) {
            x = withBytes(many);
            due("behind " + many, x.feed(1, 1, 1, 1, 1), -1);
            due("none come behind " + many, x.count(3), many);
        }
        x.end(920);
        due("room again", x.feed(1, 1, 1, 1, 1), 940);
    }

    private static void ending() {
        edge(3, "The tape has its first n bytes alone: true");
        HeavyPairs x = new HeavyPairs();
        x.feed(0x706f696e, 0x7420613b, 0x706f696e, 0x7420623b, 0x706f696e);
        due("all", x.end(20), true);
        due("all", x.count(3), 20);
        due("16", x.end(16), true);
        due("16", x.count(3), 16);
        due("two points", x.network(), 2);
        x.feed(0x706f696e, 0x7420613b, 0x706f696e, 0x7420623b, 0x706f696e);
        due("8", x.end(8), true);
        due("one point", x.network(), 1);
        x.feed(1, 2, 3, 4, 5);
        due("none", x.end(0), true);
        due("none", x.count(3), 0);
        due("none of none", x.end(0), true);

        edge(3, "false, if it has not so many, or n is below 0.");
        x.feed(1, 2, 3, 4, 5);
        due("one more", x.end(21), false);
        due("most", x.end(Integer.MAX_VALUE), false);
        due("below 0", x.end(-1), false);
        due("least", x.end(Integer.MIN_VALUE), false);
        due("it stays", x.count(3), 20);
        x.end(5);
        due("cut bytes are gone", x.end(6), false);
        due("it stays", x.count(3), 5);
    }

    private static void newNetwork() {
        edge(4, "The tape (empty then, here and below) is the NETWORK now");
        HeavyPairs x = new HeavyPairs();
        TestKit.network(x, ABC + "link a b 5;pair a b;price a 3;odd 4 a b c;");
        due("empty", x.count(3), 0);
        due("points", x.count(0), 3);
        due("pairs", x.now(1), 1);
        due("bound", x.now(4), 7);
        TestKit.network(x, "point b;point a;");
        due("another one", x.count(0), 2);
        due("no links", x.count(1), 0);
        due("no odd sets", x.count(2), 0);
        due("no pairs", x.now(2), 0b11);
        due("no prices", x.now(4), 0);
        TestKit.network(x, "point");
        due("empty behind a fault", x.count(3), 0);
        TestKit.book(x, "part a;", 0);
        due("empty behind a book", x.count(3), 0);
        TestKit.book(x, "part", 1);
        due("empty behind a faulty book", x.count(3), 0);
        TestKit.sentence(x, "lone");
        due("empty behind a sentence", x.count(3), 0);
        TestKit.sentence(x, "lon");
        due("empty behind a faulty sentence", x.count(3), 0);
        TestKit.who(x, 0, 255);
        due("empty behind who", x.count(3), 0);
        TestKit.who(x, 0, 254);
        due("empty behind who of NONE", x.count(3), 0);

        edge(4, "how many LINES");
        TextKit.goodNetwork(0, "");
        TextKit.goodNetwork(1, "point a;");
        TextKit.goodNetwork(8, ABC + "link a b 5;pair a b;price a 3;price b 3;odd 4 a b c;");
        TextKit.goodNetwork(56, TEN + TextKit.linksText(30) + SIX_SETS + prices(10));

        edge(4, "-1 less the place of a FAULT: it stays.");
        x = TestKit.of(TextKit.NET);
        x.pair(0, 1);
        TestKit.sentence(x, "lone");
        due("at 0", TestKit.network(x, "dd;"), -1);
        due("at 6", TestKit.network(x, "point 5;"), -7);
        due("points stay", x.count(0), 4);
        due("links stay", x.count(1), 2);
        due("odd sets stay", x.odd(0, 1), 2);
        due("pairs stay", x.now(1), 1);
        due("the sentence stays", x.said(-1), 2);
        due("what can be undone stays", x.undo(), 0);
    }

    private static String prices(int many) {
        StringBuilder text = new StringBuilder();
        for (int p = 0; p < many; p++) {
            text.append("price ").append((char) ('a' + p)).append(" 1;");
        }
        return text.toString();
    }

    private static void faultTold() {
        edge(5, "The kind of the FAULT of the latest network(), book() or sentence()");
        HeavyPairs x = TestKit.of(TextKit.NET);
        String[] networks = {"point 1;", "point a;price a 401;", "point a;point a;", TEN + "point k;"};
        String[] books = {"part 1;", "price a 401;", "part e;", TextKit.repeated("part a;", 41)};
        String[] sentences = {"with 1", "in 6", "with e", TextKit.repeated("(", 9)};
        for (int kind = 1; kind <= 4; kind++) {
            TestKit.network(x, networks[kind - 1]);
            due("of a network", x.fault(), kind);
            TestKit.book(x, "", 0);
            TestKit.book(x, books[kind - 1], 0);
            due("of a book", x.fault(), kind);
            TestKit.sentence(x, "lone");
            TestKit.sentence(x, sentences[kind - 1]);
            due("of a sentence", x.fault(), kind);
        }
        x.best();
        TestKit.who(x, 0, 254);
        x.undo();
        x.restore(0);
        due("other calls leave it", x.fault(), 4);

        edge(5, "(a book() of -1000 leaves it)");
        x.book(2);
        due("a fault stays", x.fault(), 4);
        TestKit.book(x, "", 0);
        TestKit.tape(x, "part");
        due("of -1000", x.book(-1), -1000);
        due("none stays", x.fault(), 0);

        edge(5, "0 without one and ahead of any.");
        due("ahead of any", new HeavyPairs().fault(), 0);
        x = TestKit.of("");
        due("of a network", x.fault(), 0);
        TestKit.network(x, "poin");
        TestKit.network(x, ABC);
        due("of a network behind a fault", x.fault(), 0);
        TestKit.sentence(x, "lon");
        TestKit.sentence(x, "lone");
        due("of a sentence behind a fault", x.fault(), 0);
        TestKit.book(x, "part", 0);
        TestKit.book(x, "part a;", 0);
        due("of a book that is wrong", x.fault(), 0);
    }
}
