/** FAULTS of the three kinds of text: their kind and place, by texts in which a ^ stands ahead of the place. */
public final class TextTests {
    private static final String ABC = TextKit.ABC;

    public static void main(String[] args) {
        tokens();
        networkLines();
        networkMosts();
        networkLength();
        bookLines();
        bookMosts();
        sentenceParts();
        sentenceMosts();
        TestKit.finish("TextTests");
    }

    private static void tokens() {
        TextKit.goodNetwork(0, "");
        TextKit.goodNetwork(0, " \n ");
        TextKit.goodNetwork(1, "point a;");
        TextKit.goodNetwork(1, "\n  point\n\na ; ");
        TextKit.goodNetwork(3, "point a;point b;link a b 099;");
        TextKit.goodNetwork(1, "point abcdefg;");
        TextKit.goodNetwork(1, "point poin;");
        TextKit.goodNetwork(1, "point pointy;");
        TextKit.faultyNetwork(1, "^points a;");
        TextKit.faultyNetwork(1, "point ^abcdefgh;");
        TextKit.faultyNetwork(1, "point ^a1;");
        TextKit.faultyNetwork(1, "point ^1a;");
        TextKit.faultyNetwork(1, "point ^12;");
        TextKit.faultyNetwork(1, "point ^A;");
        TextKit.faultyNetwork(1, "point ^\ta;");
        TextKit.faultyNetwork(1, "point a^,");
        TextKit.faultyNetwork(1, "point a^:");
        TextKit.faultyNetwork(1, "point a^?");
        TextKit.faultyNetwork(1, "point a;^\u0000");
        TextKit.faultyNetwork(1, "point a;^\u00ff");
        TextKit.faultyNetwork(1, "^Point a;");
        TextKit.faultyNetwork(1, ABC + "link a b ^0001;");
        TextKit.faultyNetwork(1, ABC + "link a b ^1x;");
        TextKit.faultyNetwork(1, ABC + "link a b 1 ^");
        TextKit.faultyNetwork(1, ABC + "link a b 1   ^");
        TextKit.faultyNetwork(1, "point^");
        TextKit.faultyNetwork(1, "point a^");
        TextKit.faultyNetwork(1, "point a;^;");
        TextKit.faultyNetwork(1, "point a ^b;");
        TextKit.faultyNetwork(1, "point ^;");
        TextKit.faultyNetwork(1, "point a;^(");
        for (String word : Plain.TOLD) {
            TextKit.faultyNetwork(1, "point ^" + word + ";");
            TextKit.faultyNetwork(1, ABC + "link a ^" + word + " 3;");
            TextKit.faultyNetwork(1, ABC + "price ^" + word + " 3;");
        }
    }

    private static void networkLines() {
        TextKit.faultyNetwork(3, "point a;point ^a;");
        TextKit.faultyNetwork(3, ABC + "link ^d a 1;");
        TextKit.faultyNetwork(3, ABC + "link a ^d 1;");
        TextKit.faultyNetwork(3, ABC + "link a ^a 1;");
        TextKit.faultyNetwork(3, ABC + "link a b 1;link a ^b 1;");
        TextKit.faultyNetwork(3, ABC + "link a b 1;link b ^a 1;");
        TextKit.faultyNetwork(1, ABC + "link a ^1;");
        TextKit.faultyNetwork(1, ABC + "link a b^;");
        TextKit.faultyNetwork(2, ABC + "link a b ^0;");
        TextKit.faultyNetwork(2, ABC + "link a b ^100;");
        TextKit.faultyNetwork(2, ABC + "link a b ^000;");
        TextKit.faultyNetwork(1, ABC + "link a b 1 ^1;");
        TextKit.goodNetwork(4, ABC + "link a b 99;");

        TextKit.faultyNetwork(3, ABC + "pair a ^b;");
        TextKit.faultyNetwork(3, ABC + "pair a ^a;");
        TextKit.faultyNetwork(3, ABC + "pair ^d a;");
        TextKit.faultyNetwork(3, ABC + "link a b 1;link b c 1;pair a b;pair b ^c;");
        TextKit.faultyNetwork(3, ABC + "link a b 1;link b c 1;pair a b;pair c ^b;");
        TextKit.faultyNetwork(3, ABC + "link a b 1;pair a b;pair a ^b;");
        TextKit.faultyNetwork(1, ABC + "link a b 1;pair a b ^1;");
        // told ahead of the link, they are not linked so far
        TextKit.faultyNetwork(3, ABC + "pair a ^b;link a b 1;");
        TextKit.goodNetwork(5, ABC + "link a b 1;pair b a;");

        TextKit.faultyNetwork(3, ABC + "price ^d 1;");
        TextKit.faultyNetwork(3, ABC + "price a 0;price ^a 0;");
        TextKit.faultyNetwork(2, ABC + "price a ^401;");
        TextKit.faultyNetwork(1, ABC + "price a^;");
        TextKit.faultyNetwork(1, ABC + "price ^4;");
        TextKit.goodNetwork(5, ABC + "price a 400;price b 0;");

        TextKit.faultyNetwork(1, ABC + "odd ^a b c;");
        TextKit.faultyNetwork(2, ABC + "odd ^401 a b c;");
        TextKit.faultyNetwork(1, ABC + "odd 1^;");
        TextKit.faultyNetwork(1, ABC + "odd 1 a b^;");
        TextKit.faultyNetwork(1, ABC + "odd 1 a b ^3;");
        TextKit.faultyNetwork(3, ABC + "odd 1 a b ^d;");
        TextKit.faultyNetwork(3, ABC + "odd 1 a b ^b;");
        TextKit.faultyNetwork(1, ABC + "point d;odd 1 a b c d^;");
        TextKit.faultyNetwork(3, ABC + "odd 1 a b c;odd 2 c a b^;");
        TextKit.faultyNetwork(3, ABC + "odd 1 a b c ^a;");
        TextKit.faultyNetwork(1, ABC + "odd 1 a b c ^odd");
        TextKit.goodNetwork(4, ABC + "odd 400 c a b;");
        String ten = "point a;point b;point c;point d;point e;point f;point g;point h;point i;point j;";
        TextKit.goodNetwork(11, ten + "odd 0 a b c d e f g h i;");
        TextKit.faultyNetwork(1, ten + "odd 0 a b c d e f g h i ^j;");
        TextKit.faultyNetwork(1, ten + "odd 0 a b c d e f g h i ^a;");
        TextKit.faultyNetwork(1, ten + "odd 0 a b c d e f g h^;");
        TextKit.faultyNetwork(1, "^part a;");
        TextKit.faultyNetwork(1, "^weigh a b 1;");
        TextKit.faultyNetwork(1, "^lone;");
    }

    private static void networkMosts() {
        TextKit.goodNetwork(10, TextKit.pointsText(10));
        TextKit.faultyNetwork(4, TextKit.pointsText(10) + "^point k;");
        TextKit.faultyNetwork(4, TextKit.pointsText(10) + "^point a;");
        TextKit.faultyNetwork(4, TextKit.pointsText(10) + "^point 3");
        TextKit.goodNetwork(40, TextKit.pointsText(10) + TextKit.linksText(30));
        TextKit.faultyNetwork(4, TextKit.pointsText(10) + TextKit.linksText(30) + "^link i j 1;");
        TextKit.faultyNetwork(4, TextKit.pointsText(10) + TextKit.linksText(30) + "^link");
        String six = "odd 0 a b c;odd 0 a b d;odd 0 a b e;odd 0 a b f;odd 0 a b g;odd 0 a b h;";
        TextKit.goodNetwork(16, TextKit.pointsText(10) + six);
        TextKit.faultyNetwork(4, TextKit.pointsText(10) + six + "^odd 0 a b i;");
        TextKit.faultyNetwork(4, TextKit.pointsText(10) + six + "^odd 0 a b c;");
    }

    private static void networkLength() {
        TextKit.goodNetwork(1, TextKit.filled("point a;", 900));
        TextKit.faultyNetwork(1, TextKit.filled("point a;", 900) + "^ ");
        TextKit.faultyNetwork(1, TextKit.filled("point a;", 900) + "^                                        ");
        TextKit.faultyNetwork(1, TextKit.filled("point a;", 900) + "^point b;");
        // a fault ahead of the most is told first
        TextKit.faultyNetwork(1, TextKit.filled("point a;", 890) + "^lone;      ");
        TextKit.faultyNetwork(3, TextKit.filled("point a;", 890) + "point ^a;       ");
        // a token that begins ahead of the most is read whole
        TextKit.faultyNetwork(1, TextKit.filled("point a;point b", 900) + "^;");
        TextKit.faultyNetwork(1, TextKit.filled("point a;", 892) + "point abcdefg;".substring(0, 8) + "^" + "cdefg;");
        TextKit.faultyNetwork(1, TextKit.filled("point a;", 893) + "point ^abcdefghi;");
        TextKit.faultyNetwork(1, TextKit.filled("point a;", 895) + "point^ b;");
        TextKit.faultyNetwork(3, TextKit.filled("point aaaaaaa;", 893) + "point ^aaaaaaa;");
        TextKit.faultyNetwork(1, TextKit.filled("point aaaaaaa;", 894) + "point ^aaaaaaa;");
    }

    private static void bookLines() {
        TextKit.goodBook(-1, "");
        TextKit.goodBook(-1, "\n pair a b ;part a; weigh a b 99;price a 400;crown 0 400;grow a;");
        TextKit.goodBook(0, "pair a c;");
        TextKit.goodBook(0, "weigh a c 1;");
        TextKit.goodBook(0, "crown 5 0;");
        TextKit.goodBook(0, "open 5;");
        TextKit.goodBook(2, "pair a b;part b;part b;");
        TextKit.faultyBook(3, "pair a ^a;");
        TextKit.faultyBook(3, "pair ^e a;");
        TextKit.faultyBook(3, "pair a ^e;");
        TextKit.faultyBook(1, "pair a b ^5;");
        TextKit.faultyBook(1, "pair a^;");
        TextKit.faultyBook(3, "part ^e;");
        TextKit.faultyBook(1, "part ^5;");
        TextKit.faultyBook(3, "weigh a ^a 5;");
        TextKit.faultyBook(2, "weigh a b ^0;");
        TextKit.faultyBook(2, "weigh a b ^100;");
        TextKit.faultyBook(1, "weigh a b^;");
        TextKit.faultyBook(2, "price a ^401;");
        TextKit.faultyBook(3, "price ^zz 1;");
        TextKit.faultyBook(2, "crown ^6 1;");
        TextKit.faultyBook(2, "crown 0 ^401;");
        TextKit.faultyBook(1, "crown ^a 1;");
        TextKit.faultyBook(1, "crown 0^;");
        TextKit.faultyBook(2, "open ^6;");
        TextKit.faultyBook(1, "open 0 ^0;");
        TextKit.faultyBook(3, "grow ^x;");
        TextKit.faultyBook(1, "grow ^grow;");
        TextKit.faultyBook(1, "^point a;");
        TextKit.faultyBook(1, "^link a b 3;");
        TextKit.faultyBook(1, "^odd 0 a b c;");
        TextKit.faultyBook(1, "^a;");
        TextKit.faultyBook(1, "^;");
        TextKit.faultyBook(1, "part a^");
        TextKit.faultyBook(1, "part a;^&");
        // a fault behind a line that is wrong is a fault all the same
        TextKit.faultyBook(1, "part a;part^;");
    }

    private static void bookMosts() {
        StringBuilder forty = new StringBuilder();
        for (int i = 0; i < 40; i++) {
            forty.append("part a;");
        }
        TextKit.goodBook(0, forty.toString());
        TextKit.faultyBook(4, forty + "^part a;");
        TextKit.faultyBook(4, forty + "^part");
        TextKit.faultyBook(4, forty + "^grow e;");
        TextKit.faultyBook(1, forty + "^point a;");
        TextKit.faultyBook(1, forty + "^;");
        TextKit.goodBook(0, TextKit.filled("part a;", 400));
        TextKit.faultyBook(1, TextKit.filled("part a;", 400) + "^ ");
        TextKit.faultyBook(1, TextKit.filled("part a;", 397) + "par^t a;");
        TextKit.faultyBook(1, TextKit.filled("part a;", 397) + "^parts a;");
    }

    private static void sentenceParts() {
        TextKit.goodSentence(1, "lone");
        TextKit.goodSentence(3, "not(tight)");
        TextKit.goodSentence(6, "lone or tight and not with a or (linked b)");
        TextKit.goodSentence(1, "in 005");
        TextKit.goodSentence(1, "priced<999");
        TextKit.goodSentence(4, "links=0 and weight>0 or number < 0 and number>9");
        TextKit.faultySentence(1, "^");
        TextKit.faultySentence(1, "  \n^");
        TextKit.faultySentence(1, "^or");
        TextKit.faultySentence(1, "lone ^lone");
        TextKit.faultySentence(1, "lone and ^or");
        TextKit.faultySentence(1, "lone and^");
        TextKit.faultySentence(1, "not^");
        TextKit.faultySentence(1, "not ^and");
        TextKit.faultySentence(1, "(lone^");
        TextKit.faultySentence(1, "(^)");
        TextKit.faultySentence(1, "lone^)");
        TextKit.faultySentence(1, "lone^;");
        TextKit.faultySentence(1, "with^");
        TextKit.faultySentence(1, "with ^5");
        TextKit.faultySentence(1, "with ^lone");
        TextKit.faultySentence(3, "with ^e");
        TextKit.faultySentence(3, "linked ^pairs");
        TextKit.faultySentence(2, "in ^6");
        TextKit.faultySentence(2, "in ^999");
        TextKit.faultySentence(1, "in ^a");
        TextKit.faultySentence(1, "priced ^5");
        TextKit.faultySentence(1, "priced < ^a");
        TextKit.faultySentence(1, "priced < ^1000");
        TextKit.faultySentence(1, "priced <^");
        TextKit.faultySentence(1, "priced < ^> 5");
        TextKit.faultySentence(1, "weight ^( 5");
        TextKit.faultySentence(1, "^a");
        TextKit.faultySentence(1, "^5");
        TextKit.faultySentence(1, "^pair");
        TextKit.faultySentence(1, "lone ^not tight");
    }

    private static void sentenceMosts() {
        TextKit.goodSentence(20, TextKit.repeated("lone or ", 19) + "lone");
        TextKit.faultySentence(4, TextKit.repeated("lone or ", 20) + "^lone");
        TextKit.faultySentence(4, TextKit.repeated("lone or ", 20) + "^in 6");
        TextKit.faultySentence(1, TextKit.repeated("lone or ", 20) + "^or");
        TextKit.faultySentence(1, TextKit.repeated("lone or ", 20) + "^");
        TextKit.goodSentence(8, TextKit.repeated("not ", 7) + "lone");
        TextKit.faultySentence(4, TextKit.repeated("not ", 8) + "^lone");
        TextKit.faultySentence(4, TextKit.repeated("not ", 8) + "^not lone");
        TextKit.faultySentence(1, TextKit.repeated("not ", 8) + "^or");
        TextKit.goodSentence(8, TextKit.repeated("(", 7) + "lone" + TextKit.repeated(")", 7));
        TextKit.faultySentence(4, TextKit.repeated("(", 8) + "^lone" + TextKit.repeated(")", 8));
        TextKit.faultySentence(4, TextKit.repeated("(", 8) + "^(" + TextKit.repeated(")", 8));
        TextKit.faultySentence(4, TextKit.repeated("(not ", 4) + "^lone" + TextKit.repeated(")", 4));
        TextKit.goodSentence(14, TextKit.repeated("(", 6) + "lone" + TextKit.repeated(") or (tight", 3) + TextKit.repeated(")", 6) + " and lone");
        TextKit.goodSentence(1, TextKit.filled("lone", 200));
        TextKit.faultySentence(1, TextKit.filled("lone", 200) + "^ ");
        TextKit.faultySentence(1, TextKit.filled("lone", 196) + " and^");
        TextKit.faultySentence(1, TextKit.filled("lone or", 198) + "in^ 3");
        TextKit.faultySentence(1, TextKit.filled("lone", 199) + "o^r lone");
        TextKit.faultySentence(1, TextKit.filled("lone", 198) + "^lone");
    }
}
