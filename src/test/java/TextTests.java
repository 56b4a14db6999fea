/** FAULTS of the three kinds of text: their kind and place, by texts in which a ^ stands ahead of the place. */
public final class TextTests {
    private static final String ABC = "point a;point b;point c;";
    private static final String NET = ABC + "point d;link a b 5;link b c 3;odd 2 a b c;";

    public static void main(String[] args) {
        tokens();
        networkLines();
        networkMosts();
        networkLength();
        bookLines();
        bookMosts();
        sentenceParts();
        sentenceMosts();
        TestKit.finish("TextTests");
    }

    private static String bare(String marked) {
        int at = marked.indexOf('^');
        return marked.substring(0, at) + marked.substring(at + 1);
    }

    /** The text has a FAULT of the kind where the ^ stands. */
    private static void network(int kind, String marked) {
        HeavyPairs x = TestKit.of("point zz;");
        TestKit.due("network " + marked, TestKit.network(x, bare(marked)), -1 - marked.indexOf('^'));
        TestKit.due("its fault " + marked, x.fault(), kind);
        TestKit.due("it stays " + marked, x.count(0), 1);
    }

    private static void goodNetwork(int lines, String text) {
        HeavyPairs x = new HeavyPairs();
        TestKit.due("network " + text, TestKit.network(x, text), lines);
        TestKit.due("its fault " + text, x.fault(), 0);
    }

    private static void book(int kind, String marked) {
        HeavyPairs x = TestKit.of(NET);
        TestKit.due("book " + marked, TestKit.book(x, bare(marked), 1), -2 - marked.indexOf('^'));
        TestKit.due("its fault " + marked, x.fault(), kind);
        TestKit.due("nothing told " + marked, x.told(1), -1);
        TestKit.due("nothing lived " + marked, x.undo(), -1);
    }

    private static void goodBook(int answer, String text) {
        HeavyPairs x = TestKit.of(NET);
        TestKit.due("book " + text, TestKit.book(x, text, 0), answer);
        TestKit.due("its fault " + text, x.fault(), 0);
    }

    private static void sentence(int kind, String marked) {
        HeavyPairs x = TestKit.of(NET);
        TestKit.due("sentence " + marked, TestKit.sentence(x, bare(marked)), -1 - marked.indexOf('^'));
        TestKit.due("its fault " + marked, x.fault(), kind);
        TestKit.due("none is said " + marked, x.said(-1), -1);
    }

    private static void goodSentence(int ones, String text) {
        HeavyPairs x = TestKit.of(NET);
        TestKit.due("sentence " + text, TestKit.sentence(x, text), ones);
        TestKit.due("its fault " + text, x.fault(), 0);
    }

    private static void tokens() {
        goodNetwork(0, "");
        goodNetwork(0, " \n ");
        goodNetwork(1, "point a;");
        goodNetwork(1, "\n  point\n\na ; ");
        goodNetwork(3, "point a;point b;link a b 099;");
        goodNetwork(1, "point abcdefg;");
        goodNetwork(1, "point poin;");
        goodNetwork(1, "point pointy;");
        network(1, "^points a;");
        network(1, "point ^abcdefgh;");
        network(1, "point ^a1;");
        network(1, "point ^1a;");
        network(1, "point ^12;");
        network(1, "point ^A;");
        network(1, "point ^\ta;");
        network(1, "point a^,");
        network(1, "point a^:");
        network(1, "point a^?");
        network(1, "point a;^\u0000");
        network(1, "point a;^\u00ff");
        network(1, "^Point a;");
        network(1, ABC + "link a b ^0001;");
        network(1, ABC + "link a b ^1x;");
        network(1, ABC + "link a b 1 ^");
        network(1, ABC + "link a b 1   ^");
        network(1, "point^");
        network(1, "point a^");
        network(1, "point a;^;");
        network(1, "point a ^b;");
        network(1, "point ^;");
        network(1, "point a;^(");
        for (String word : Plain.TOLD) {
            network(1, "point ^" + word + ";");
            network(1, ABC + "link a ^" + word + " 3;");
            network(1, ABC + "price ^" + word + " 3;");
        }
    }

    private static void networkLines() {
        network(3, "point a;point ^a;");
        network(3, ABC + "link ^d a 1;");
        network(3, ABC + "link a ^d 1;");
        network(3, ABC + "link a ^a 1;");
        network(3, ABC + "link a b 1;link a ^b 1;");
        network(3, ABC + "link a b 1;link b ^a 1;");
        network(1, ABC + "link a ^1;");
        network(1, ABC + "link a b^;");
        network(2, ABC + "link a b ^0;");
        network(2, ABC + "link a b ^100;");
        network(2, ABC + "link a b ^000;");
        network(1, ABC + "link a b 1 ^1;");
        goodNetwork(4, ABC + "link a b 99;");

        network(3, ABC + "pair a ^b;");
        network(3, ABC + "pair a ^a;");
        network(3, ABC + "pair ^d a;");
        network(3, ABC + "link a b 1;link b c 1;pair a b;pair b ^c;");
        network(3, ABC + "link a b 1;link b c 1;pair a b;pair c ^b;");
        network(3, ABC + "link a b 1;pair a b;pair a ^b;");
        network(1, ABC + "link a b 1;pair a b ^1;");
        // told ahead of the link, they are not linked so far
        network(3, ABC + "pair a ^b;link a b 1;");
        goodNetwork(5, ABC + "link a b 1;pair b a;");

        network(3, ABC + "price ^d 1;");
        network(3, ABC + "price a 0;price ^a 0;");
        network(2, ABC + "price a ^401;");
        network(1, ABC + "price a^;");
        network(1, ABC + "price ^4;");
        goodNetwork(5, ABC + "price a 400;price b 0;");

        network(1, ABC + "odd ^a b c;");
        network(2, ABC + "odd ^401 a b c;");
        network(1, ABC + "odd 1^;");
        network(1, ABC + "odd 1 a b^;");
        network(1, ABC + "odd 1 a b ^3;");
        network(3, ABC + "odd 1 a b ^d;");
        network(3, ABC + "odd 1 a b ^b;");
        network(1, ABC + "point d;odd 1 a b c d^;");
        network(3, ABC + "odd 1 a b c;odd 2 c a b^;");
        network(3, ABC + "odd 1 a b c ^a;");
        network(1, ABC + "odd 1 a b c ^odd");
        goodNetwork(4, ABC + "odd 400 c a b;");
        String ten = "point a;point b;point c;point d;point e;point f;point g;point h;point i;point j;";
        goodNetwork(11, ten + "odd 0 a b c d e f g h i;");
        network(1, ten + "odd 0 a b c d e f g h i ^j;");
        network(1, ten + "odd 0 a b c d e f g h i ^a;");
        network(1, ten + "odd 0 a b c d e f g h^;");
        network(1, "^part a;");
        network(1, "^weigh a b 1;");
        network(1, "^lone;");
    }

    private static String pointsText(int many) {
        StringBuilder text = new StringBuilder();
        for (int p = 0; p < many; p++) {
            text.append("point ").append((char) ('a' + p)).append(';');
        }
        return text.toString();
    }

    private static String linksText(int many) {
        StringBuilder text = new StringBuilder();
        int links = 0;
        for (int p = 0; p < 10; p++) {
            for (int q = p + 1; q < 10 && links < many; q++) {
                text.append("link ").append((char) ('a' + p)).append(' ').append((char) ('a' + q)).append(" 1;");
                links++;
            }
        }
        return text.toString();
    }

    private static void networkMosts() {
        goodNetwork(10, pointsText(10));
        network(4, pointsText(10) + "^point k;");
        network(4, pointsText(10) + "^point a;");
        network(4, pointsText(10) + "^point 3");
        goodNetwork(40, pointsText(10) + linksText(30));
        network(4, pointsText(10) + linksText(30) + "^link i j 1;");
        network(4, pointsText(10) + linksText(30) + "^link");
        String six = "odd 0 a b c;odd 0 a b d;odd 0 a b e;odd 0 a b f;odd 0 a b g;odd 0 a b h;";
        goodNetwork(16, pointsText(10) + six);
        network(4, pointsText(10) + six + "^odd 0 a b i;");
        network(4, pointsText(10) + six + "^odd 0 a b c;");
    }

    private static String filled(String text, int length) {
        StringBuilder filled = new StringBuilder(text);
        while (filled.length() < length) {
            filled.append(' ');
        }
        return filled.toString();
    }

    private static void networkLength() {
        goodNetwork(1, filled("point a;", 900));
        network(1, filled("point a;", 900) + "^ ");
        network(1, filled("point a;", 900) + "^                                        ");
        network(1, filled("point a;", 900) + "^point b;");
        // a fault ahead of the most is told first
        network(1, filled("point a;", 890) + "^lone;      ");
        network(3, filled("point a;", 890) + "point ^a;       ");
        // a token that begins ahead of the most is read whole
        network(1, filled("point a;point b", 900) + "^;");
        network(1, filled("point a;", 892) + "point abcdefg;".substring(0, 8) + "^" + "cdefg;");
        network(1, filled("point a;", 893) + "point ^abcdefghi;");
        network(1, filled("point a;", 895) + "point^ b;");
        network(3, filled("point aaaaaaa;", 893) + "point ^aaaaaaa;");
        network(1, filled("point aaaaaaa;", 894) + "point ^aaaaaaa;");
    }

    private static void bookLines() {
        goodBook(-1, "");
        goodBook(-1, "\n pair a b ;part a; weigh a b 99;price a 400;crown 0 400;grow a;");
        goodBook(0, "pair a c;");
        goodBook(0, "weigh a c 1;");
        goodBook(0, "crown 5 0;");
        goodBook(0, "open 5;");
        goodBook(2, "pair a b;part b;part b;");
        book(3, "pair a ^a;");
        book(3, "pair ^e a;");
        book(3, "pair a ^e;");
        book(1, "pair a b ^5;");
        book(1, "pair a^;");
        book(3, "part ^e;");
        book(1, "part ^5;");
        book(3, "weigh a ^a 5;");
        book(2, "weigh a b ^0;");
        book(2, "weigh a b ^100;");
        book(1, "weigh a b^;");
        book(2, "price a ^401;");
        book(3, "price ^zz 1;");
        book(2, "crown ^6 1;");
        book(2, "crown 0 ^401;");
        book(1, "crown ^a 1;");
        book(1, "crown 0^;");
        book(2, "open ^6;");
        book(1, "open 0 ^0;");
        book(3, "grow ^x;");
        book(1, "grow ^grow;");
        book(1, "^point a;");
        book(1, "^link a b 3;");
        book(1, "^odd 0 a b c;");
        book(1, "^a;");
        book(1, "^;");
        book(1, "part a^");
        book(1, "part a;^&");
        // a fault behind a line that is wrong is a fault all the same
        book(1, "part a;part^;");
    }

    private static void bookMosts() {
        StringBuilder forty = new StringBuilder();
        for (int i = 0; i < 40; i++) {
            forty.append("part a;");
        }
        goodBook(0, forty.toString());
        book(4, forty + "^part a;");
        book(4, forty + "^part");
        book(4, forty + "^grow e;");
        book(1, forty + "^point a;");
        book(1, forty + "^;");
        goodBook(0, filled("part a;", 400));
        book(1, filled("part a;", 400) + "^ ");
        book(1, filled("part a;", 397) + "par^t a;");
        book(1, filled("part a;", 397) + "^parts a;");
    }

    private static void sentenceParts() {
        goodSentence(1, "lone");
        goodSentence(3, "not(tight)");
        goodSentence(6, "lone or tight and not with a or (linked b)");
        goodSentence(1, "in 005");
        goodSentence(1, "priced<999");
        goodSentence(4, "links=0 and weight>0 or number < 0 and number>9");
        sentence(1, "^");
        sentence(1, "  \n^");
        sentence(1, "^or");
        sentence(1, "lone ^lone");
        sentence(1, "lone and ^or");
        sentence(1, "lone and^");
        sentence(1, "not^");
        sentence(1, "not ^and");
        sentence(1, "(lone^");
        sentence(1, "(^)");
        sentence(1, "lone^)");
        sentence(1, "lone^;");
        sentence(1, "with^");
        sentence(1, "with ^5");
        sentence(1, "with ^lone");
        sentence(3, "with ^e");
        sentence(3, "linked ^pairs");
        sentence(2, "in ^6");
        sentence(2, "in ^999");
        sentence(1, "in ^a");
        sentence(1, "priced ^5");
        sentence(1, "priced < ^a");
        sentence(1, "priced < ^1000");
        sentence(1, "priced <^");
        sentence(1, "priced < ^> 5");
        sentence(1, "weight ^( 5");
        sentence(1, "^a");
        sentence(1, "^5");
        sentence(1, "^pair");
        sentence(1, "lone ^not tight");
    }

    private static String repeated(String piece, int times) {
        StringBuilder text = new StringBuilder();
        for (int i = 0; i < times; i++) {
            text.append(piece);
        }
        return text.toString();
    }

    private static void sentenceMosts() {
        goodSentence(20, repeated("lone or ", 19) + "lone");
        sentence(4, repeated("lone or ", 20) + "^lone");
        sentence(4, repeated("lone or ", 20) + "^in 6");
        sentence(1, repeated("lone or ", 20) + "^or");
        sentence(1, repeated("lone or ", 20) + "^");
        goodSentence(8, repeated("not ", 7) + "lone");
        sentence(4, repeated("not ", 8) + "^lone");
        sentence(4, repeated("not ", 8) + "^not lone");
        sentence(1, repeated("not ", 8) + "^or");
        goodSentence(8, repeated("(", 7) + "lone" + repeated(")", 7));
        sentence(4, repeated("(", 8) + "^lone" + repeated(")", 8));
        sentence(4, repeated("(", 8) + "^(" + repeated(")", 8));
        sentence(4, repeated("(not ", 4) + "^lone" + repeated(")", 4));
        goodSentence(14, repeated("(", 6) + "lone" + repeated(") or (tight", 3) + repeated(")", 6) + " and lone");
        goodSentence(1, filled("lone", 200));
        sentence(1, filled("lone", 200) + "^ ");
        sentence(1, filled("lone", 196) + " and^");
        sentence(1, filled("lone or", 198) + "in^ 3");
        sentence(1, filled("lone", 199) + "o^r lone");
        sentence(1, filled("lone", 198) + "^lone");
    }
}
