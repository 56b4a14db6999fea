import java.util.ArrayList;
import java.util.List;

/** Texts with and without a FAULT; in a marked text a ^ stands ahead of the FAULT's place. */
final class TextKit {
    static final String ABC = "point a;point b;point c;";
    static final String NET = ABC + "point d;link a b 5;link b c 3;odd 2 a b c;";

    private TextKit() {
    }

    static String bare(String marked) {
        int at = marked.indexOf('^');
        return marked.substring(0, at) + marked.substring(at + 1);
    }

    static void faultyNetwork(int kind, String marked) {
        HeavyPairs x = TestKit.of("point zz;");
        EdgeKit.due("network " + marked, TestKit.network(x, bare(marked)), -1 - marked.indexOf('^'));
        EdgeKit.due("its fault " + marked, x.fault(), kind);
        EdgeKit.due("it stays " + marked, x.count(0), 1);
    }

    static void goodNetwork(int lines, String text) {
        HeavyPairs x = new HeavyPairs();
        EdgeKit.due("network " + text, TestKit.network(x, text), lines);
        EdgeKit.due("its fault " + text, x.fault(), 0);
    }

    static void faultyBook(int kind, String marked) {
        HeavyPairs x = TestKit.of(NET);
        EdgeKit.due("book " + marked, TestKit.book(x, bare(marked), 1), -2 - marked.indexOf('^'));
        EdgeKit.due("its fault " + marked, x.fault(), kind);
        EdgeKit.due("nothing told " + marked, x.told(1), -1);
        EdgeKit.due("nothing lived " + marked, x.undo(), -1);
    }

    static void goodBook(int answer, String text) {
        HeavyPairs x = TestKit.of(NET);
        EdgeKit.due("book " + text, TestKit.book(x, text, 0), answer);
        EdgeKit.due("its fault " + text, x.fault(), 0);
    }

    static void faultySentence(int kind, String marked) {
        HeavyPairs x = TestKit.of(NET);
        EdgeKit.due("sentence " + marked, TestKit.sentence(x, bare(marked)), -1 - marked.indexOf('^'));
        EdgeKit.due("its fault " + marked, x.fault(), kind);
        EdgeKit.due("none is said " + marked, x.said(-1), -1);
    }

    static void goodSentence(int ones, String text) {
        HeavyPairs x = TestKit.of(NET);
        EdgeKit.due("sentence " + text, TestKit.sentence(x, text), ones);
        EdgeKit.due("its fault " + text, x.fault(), 0);
    }

    /**
     * Behind a text none but these TOKENS can come ("end": the text can end there); of the others each is a FAULT 1.
     * Told words and signs stand for themselves, a for each NAME, 5 for each NUMBER.
     */
    static void onlyThese(char sort, String ahead, String... can) {
        List<String> fine = List.of(can);
        List<String> all = new ArrayList<>(List.of(";", "<", "=", ">", "(", ")", "5", "a"));
        all.addAll(Plain.TOLD);
        for (String token : all) {
            if (!fine.contains(token)) {
                faulty(sort, 1, ahead + " ^" + token);
                faulty(sort, 1, ahead + "\n^" + token + " ;");
            }
        }
        if (!fine.contains("end")) {
            faulty(sort, 1, ahead + "^");
            faulty(sort, 1, ahead + " ^");
        }
    }

    private static void faulty(char sort, int kind, String marked) {
        switch (sort) {
            case 'n':
                faultyNetwork(kind, marked);
                break;
            case 'b':
                faultyBook(kind, marked);
                break;
            default:
                faultySentence(kind, marked);
                break;
        }
    }

    /** What must be due whichever numbers the POINTS have. */
    interface Fits {
        void check(HeavyPairs x, int[] numbers);
    }

    /** Tells points a, b, c .. in all orders ahead of a text, each to a new object; numbers[0] is the number of a then. */
    static void inAllOrders(int points, String text, Fits fits) {
        int[] numbers = new int[points];
        tellOrders(numbers, 0, 0, text, fits);
    }

    private static void tellOrders(int[] numbers, int place, int told, String text, Fits fits) {
        int points = numbers.length;
        if (place < points) {
            for (int p = 0; p < points; p++) {
                if ((told >> p & 1) == 0) {
                    numbers[p] = place;
                    tellOrders(numbers, place + 1, told | 1 << p, text, fits);
                }
            }
            return;
        }
        char[] names = new char[points];
        for (int p = 0; p < points; p++) {
            names[numbers[p]] = (char) ('a' + p);
        }
        StringBuilder whole = new StringBuilder();
        for (char name : names) {
            whole.append("point ").append(name).append(';');
        }
        fits.check(TestKit.of(whole + text), numbers.clone());
    }

    /** POINTS named by letters from a on. */
    static String pointsText(int many) {
        StringBuilder text = new StringBuilder();
        for (int p = 0; p < many; p++) {
            text.append("point ").append((char) ('a' + p)).append(';');
        }
        return text.toString();
    }

    static String linksText(int many) {
        StringBuilder text = new StringBuilder();
        int links = 0;
        for (int p = 0; p < 10; p++) {
            for (int q = p + 1; q < 10 && links < many; q++) {
                text.append("link ").append((char) ('a' + p)).append(' ').append((char) ('a' + q)).append(" 1;");
                links++;
            }
        }
        return text.toString();
    }

    /** With blanks behind it up to a length. */
    static String filled(String text, int length) {
        return text + repeated(" ", length - text.length());
    }

    static String repeated(String piece, int times) {
        return piece.repeat(Math.max(0, times));
    }
}
