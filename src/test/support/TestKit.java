import java.util.NoSuchElementException;

/** What the tests of the project share: texts fed to the tape, answers counted. */
final class TestKit {
    /** Stands for a call that throws NoSuchElementException. */
    static final int THROWS = Integer.MIN_VALUE;
    static int checked = 0;
    static int wrong = 0;

    private TestKit() {
    }

    static void due(String call, long got, long want) {
        checked++;
        if (got != want) {
            wrong++;
            if (wrong <= 50) {
                System.out.println(call + " answered " + got + ", due is " + want);
            }
        }
    }

    static void due(String call, boolean got, boolean want) {
        due(call, got ? 1 : 0, want ? 1 : 0);
    }

    /** Puts a text's bytes (0 to 255 each) alone on the tape. */
    static void tape(HeavyPairs x, String text) {
        x.end(0);
        for (int i = 0; i < text.length(); i += 20) {
            x.feed(four(text, i), four(text, i + 4), four(text, i + 8), four(text, i + 12), four(text, i + 16));
        }
        if (!x.end(text.length())) {
            throw new IllegalStateException("too long for the tape: " + text.length());
        }
    }

    static int four(String text, int from) {
        int four = 0;
        for (int i = from; i < from + 4; i++) {
            four = four << 8 | (i < text.length() ? text.charAt(i) & 255 : 0);
        }
        return four;
    }

    /** A new object whose NETWORK is the text, which must have no FAULT. */
    static HeavyPairs of(String text) {
        HeavyPairs x = new HeavyPairs();
        tape(x, text);
        int lines = x.network();
        if (lines < 0) {
            throw new IllegalStateException("no NETWORK: " + text + " " + lines + " " + x.fault());
        }
        return x;
    }

    static int network(HeavyPairs x, String text) {
        tape(x, text);
        return x.network();
    }

    static int book(HeavyPairs x, String text, int lives) {
        tape(x, text);
        return x.book(lives);
    }

    static int sentence(HeavyPairs x, String text) {
        tape(x, text);
        return x.sentence();
    }

    static int who(HeavyPairs x, int... bytes) {
        StringBuilder text = new StringBuilder();
        for (int b : bytes) {
            text.append((char) b);
        }
        tape(x, text.toString());
        return x.who();
    }

    /** POINTS of which the SENTENCE may be said, as bits. */
    static int saidBits(HeavyPairs x) {
        int bits = 0;
        for (int k = 0; k < x.said(-1); k++) {
            bits |= 1 << x.said(k);
        }
        return bits;
    }

    /** All that is so, as far as calls tell it; some 60 calls for a small NETWORK. */
    static String state(HeavyPairs x) {
        StringBuilder told = new StringBuilder();
        for (int what = 0; what < 7; what++) {
            told.append(x.now(what)).append(' ');
        }
        for (int p = 0; p < x.count(0); p++) {
            told.append("point ").append(p);
            for (int what = 0; what < 5; what++) {
                told.append(' ').append(point(x, p, what));
            }
        }
        for (int l = 0; l < x.count(1); l++) {
            told.append(" link ").append(l);
            for (int what = 0; what < 5; what++) {
                told.append(' ').append(x.link(l, what));
            }
        }
        for (int k = 0; k < x.count(2); k++) {
            told.append(" odd ").append(k).append(' ').append(x.odd(k, 0)).append(' ').append(x.odd(k, 1));
        }
        return told.toString();
    }

    static String tagText(HeavyPairs x, int p) {
        StringBuilder text = new StringBuilder();
        int length = x.tag(p);
        for (int i = 0; i < length; i++) {
            text.append((char) x.byteAt(i));
        }
        return text.toString();
    }

    static int point(HeavyPairs x, int p, int what) {
        try {
            return x.point(p, what);
        } catch (NoSuchElementException e) {
            return THROWS;
        }
    }

    static int slack(HeavyPairs x, int l) {
        try {
            return x.slack(l);
        } catch (NoSuchElementException e) {
            return THROWS;
        }
    }

    static int proofBy(HeavyPairs x) {
        try {
            return x.proofBy();
        } catch (NoSuchElementException e) {
            return THROWS;
        }
    }

    static int mean(HeavyPairs x, int what) {
        try {
            return x.mean(what);
        } catch (NoSuchElementException e) {
            return THROWS;
        }
    }

    static void finish(String name) {
        System.out.println(name + ": " + checked + " answers, " + wrong + " not as due");
        if (wrong != 0) {
            System.exit(1);
        }
    }
}
