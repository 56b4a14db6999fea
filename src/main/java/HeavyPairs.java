import java.util.NoSuchElementException;

/** Heaviest pairings in a weighted network; ../shared/DOC.md says what each call promises. */
public final class HeavyPairs {
    public static final int NONE = -1;

    private static final int MOST_POINTS = 10;
    private static final int MOST_LINKS = 30;
    private static final int MOST_SETS = 6;
    private static final int MOST_PAIRS = 5;
    private static final int MOST_PRICE = 400;
    private static final int MOST_WEIGHT = 99;
    private static final int MOST_ITEMS = 40;
    private static final int NOT_LIVED = -1000;
    private static final int LONE_BYTE = 255;
    private static final int IMAGES = 2;

    private static final int MOST_BYTES = 940;
    private static final int NETWORK_BYTES = 900;
    private static final int BOOK_BYTES = 400;
    private static final int SENTENCE_BYTES = 200;

    private static final int CANNOT_COME = 1;
    private static final int NOT_AS_TOLD = 2;
    private static final int WRONG_NAME = 3;
    private static final int TOO_MANY = 4;

    private static final int END = 0;
    private static final int BAD = 1;
    private static final int NAME = 2;
    private static final int NUMBER = 3;

    /** The kind of a told word is FIRST_WORD and its place in this row. */
    private static final String TOLD_WORDS =
            "point link pair price odd part weigh crown open grow or and not lone tight with linked in priced links weight number ";
    private static final int TOLD_COUNT = 22;
    private static final int FIRST_WORD = 100;
    private static final int POINT_WORD = 100;
    private static final int LINK_WORD = 101;
    private static final int PAIR_WORD = 102;
    private static final int PRICE_WORD = 103;
    private static final int ODD_WORD = 104;
    private static final int PART_WORD = 105;
    private static final int WEIGH_WORD = 106;
    private static final int CROWN_WORD = 107;
    private static final int OPEN_WORD = 108;
    private static final int GROW_WORD = 109;
    private static final int OR_WORD = 110;
    private static final int AND_WORD = 111;
    private static final int NOT_WORD = 112;
    private static final int LONE_WORD = 113;
    private static final int TIGHT_WORD = 114;
    private static final int WITH_WORD = 115;
    private static final int LINKED_WORD = 116;
    private static final int IN_WORD = 117;
    private static final int PRICED_WORD = 118;
    private static final int LINKS_WORD = 119;
    private static final int WEIGHT_WORD = 120;
    private static final int NUMBER_WORD = 121;

    private final Tape tape = new Tape();
    private final Network net = new Network();
    private final Network trial = new Network();
    private final NetworkText networkText = new NetworkText();
    private final Search search = new Search();
    private final Row path = new Row(MOST_POINTS);
    private final Row blossom = new Row(MOST_POINTS);
    private final Heaviest heaviest = new Heaviest();
    private final Row bestPartners = new Row(MOST_POINTS);
    private final History history = new History();
    private final Book latestBook = new Book();
    private final Saying saying = new Saying();
    private final Saying newSaying = new Saying();
    private final Picture[] pictures = new Picture[IMAGES];
    private final Draws draws = new Draws();
    private final Row label = new Row(MOST_ITEMS);
    private int flawAt;
    private int flawBy;
    private int asked;

    public HeavyPairs() {
        flawAt = NONE;
        asked = NONE;
        for (int k = 0; k < IMAGES; k++) {
            pictures[k] = new Picture();
        }
    }

    public int feed(int a, int b, int c, int d, int e) {
        if (tape.length() + 20 > MOST_BYTES) {
            return NONE;
        }
        tape.putFour(a);
        tape.putFour(b);
        tape.putFour(c);
        tape.putFour(d);
        tape.putFour(e);
        return tape.length();
    }

    public boolean end(int n) {
        if (n < 0 || n > tape.length()) {
            return false;
        }
        tape.cut(n);
        return true;
    }

    public int network() {
        boolean read = networkText.read(tape);
        tape.cut(0);
        if (!read) {
            return -1 - tape.faultAt();
        }
        net.copyFrom(networkText.result());
        saying.clear();
        history.forget();
        return networkText.lines();
    }

    public int fault() {
        return tape.faultKind();
    }

    public int point(int p, int what) throws NoSuchElementException {
        if (!net.hasPoint(p) || what < 0 || what > 4) {
            throw new NoSuchElementException();
        }
        switch (what) {
            case 0:
                return net.partnerOf(p);
            case 1:
                return net.priceOf(p);
            case 2:
                return net.nearTo(p);
            case 3:
                return net.tightTo(p);
            default:
                return net.setsWith(p);
        }
    }

    public int link(int l, int what) {
        if (!net.hasLink(l)) {
            return NONE;
        }
        switch (what) {
            case 0:
                return net.fromOf(l);
            case 1:
                return net.toOf(l);
            case 2:
                return net.weightAt(l);
            case 3:
                return net.isPair(l) ? 1 : 0;
            case 4:
                heaviest.lookAt(net);
                return heaviest.fateOf(l);
            default:
                return NONE;
        }
    }

    public int slack(int l) throws NoSuchElementException {
        if (!net.hasLink(l)) {
            throw new NoSuchElementException();
        }
        return net.slackOf(l);
    }

    public int odd(int k, int what) {
        if (!net.hasSet(k)) {
            return NONE;
        }
        switch (what) {
            case 0:
                return net.membersOf(k);
            case 1:
                return net.crownOf(k);
            case 2:
                return net.pairsWithin(k);
            default:
                return NONE;
        }
    }

    public int now(int what) {
        switch (what) {
            case 0:
                return net.total();
            case 1:
                return net.pairs();
            case 2:
                return net.lonePoints();
            case 3:
                return net.tightLinks();
            case 4:
                return net.bound();
            case 5:
                return net.turned();
            case 6:
                return net.shrunk();
            default:
                return NONE;
        }
    }

    public int pair(int p, int q) {
        if (!areTwo(p, q)) {
            return NONE;
        }
        history.mark(net);
        return keepIfDone(net.pairUp(p, q));
    }

    public int part(int p) {
        if (!net.hasPoint(p)) {
            return NONE;
        }
        history.mark(net);
        return keepIfDone(net.partFrom(p));
    }

    public int weigh(int p, int q, int w) {
        if (!areTwo(p, q) || w < 1 || w > MOST_WEIGHT) {
            return NONE;
        }
        history.mark(net);
        return keepIfDone(net.weighAnew(p, q, w));
    }

    public int price(int p, int n) {
        if (!net.hasPoint(p) || !isPrice(n)) {
            return NONE;
        }
        history.mark(net);
        return keepIfDone(net.priceAt(p, n));
    }

    public int crown(int k, int n) {
        if (!net.hasSet(k) || !isPrice(n)) {
            return NONE;
        }
        history.mark(net);
        return keepIfDone(net.crownAt(k, n));
    }

    public int open(int k) {
        if (!net.hasSet(k)) {
            return NONE;
        }
        history.mark(net);
        return keepIfDone(net.openSet(k));
    }

    public int grow(int p) {
        if (!search.findPath(net, p)) {
            return NONE;
        }
        path.copyFrom(search.row());
        return path.size() - 1;
    }

    public int growAt(int k) {
        return path.at(k);
    }

    public int turn() {
        history.mark(net);
        return keepIfDone(net.turnAlong(path));
    }

    public int flower(int p) {
        if (!search.findFlower(net, p)) {
            return NONE;
        }
        blossom.copyFrom(search.row());
        return blossom.size();
    }

    public int flowerAt(int k) {
        return blossom.at(k);
    }

    public int shrink() {
        history.mark(net);
        return keepIfDone(net.shrinkAlong(blossom));
    }

    public int undo() {
        return history.takeBack(net);
    }

    public int proof() {
        int at = net.firstLinkBelow();
        if (at != NONE) {
            return noteFlaw(1, at, net.slackOf(at));
        }
        at = net.firstLoosePair();
        if (at != NONE) {
            return noteFlaw(2, at, net.slackOf(at));
        }
        at = net.firstPricedLone();
        if (at != NONE) {
            return noteFlaw(3, at, net.priceOf(at));
        }
        at = net.firstCrownedUnfilled();
        if (at != NONE) {
            return noteFlaw(4, at, net.crownOf(at));
        }
        return noteFlaw(0, NONE, 0);
    }

    public int proofAt() {
        return flawAt;
    }

    public int proofBy() throws NoSuchElementException {
        if (flawAt == NONE) {
            throw new NoSuchElementException();
        }
        return flawBy;
    }

    public int room(int p) {
        return net.hasPoint(p) ? net.roomOf(p) : NONE;
    }

    public int best() {
        heaviest.lookAt(net);
        heaviest.bestInto(bestPartners);
        return heaviest.top();
    }

    public int bestOf(int p) {
        return bestPartners.at(p);
    }

    public int next() {
        heaviest.lookAt(net);
        return heaviest.second();
    }

    public int heavy(int k) {
        heaviest.lookAt(net);
        return heaviest.heaviestOf(k);
    }

    public int ways(int k) {
        heaviest.lookAt(net);
        return heaviest.countOf(k);
    }

    public int gain() {
        return search.greatestGain(net);
    }

    public int who() {
        int matching = NONE;
        if (isAsking()) {
            heaviest.lookAt(net);
            heaviest.wantNothing();
            for (int i = 0; i + 1 < tape.length(); i += 2) {
                heaviest.want(tape.signAt(i), tape.signAt(i + 1));
            }
            matching = heaviest.countWanted();
        }
        tape.cut(0);
        if (matching > 0) {
            asked = heaviest.mostTelling();
        }
        return matching;
    }

    public int ask() {
        return asked;
    }

    public int mean(int what) throws NoSuchElementException {
        int pairs = net.pairs();
        if (pairs < 1 || what < 0 || what > 1) {
            throw new NoSuchElementException();
        }
        int total = net.total();
        int common = commonDivisor(total, pairs);
        return (what == 0 ? total : pairs) / Math.max(1, common);
    }

    public int tag(int p) {
        if (!net.hasPoint(p)) {
            return NONE;
        }
        label.clear();
        label.addName(net.nameOf(p));
        if (net.isLone(p)) {
            label.addText(" lone");
        } else {
            label.addText(" with ");
            label.addName(net.nameOf(net.partnerOf(p)));
        }
        label.addText(" at ");
        label.addDigits(net.priceOf(p));
        return label.size();
    }

    public int byteAt(int i) {
        return label.at(i);
    }

    public int drawn(int n, int seed) {
        if (n < 1 || n > 60) {
            return NONE;
        }
        history.mark(net);
        int done = draws.run(net, search, n, seed);
        if (done > 0) {
            history.keep();
        }
        return done;
    }

    public int odds(int p, int n, int seed) {
        if (!net.hasPoint(p) || n < 1 || n > 20) {
            return NONE;
        }
        int paired = 0;
        for (int i = 0; i < n; i++) {
            trial.copyFrom(net);
            draws.run(trial, search, 12, seed + i);
            if (!trial.isLone(p)) {
                paired++;
            }
        }
        return paired;
    }

    public int book(int lives) {
        if (lives != 0 && lives != 1) {
            return NOT_LIVED;
        }
        boolean read = latestBook.read(tape, net);
        tape.cut(0);
        if (!read) {
            return -2 - tape.faultAt();
        }
        if (lives == 0) {
            trial.copyFrom(net);
            return latestBook.judge(trial, search);
        }
        history.mark(net);
        int wrong = latestBook.judge(net, search);
        if (latestBook.toldOf(1) > 0) {
            history.keep();
        }
        return wrong;
    }

    public int told(int what) {
        return latestBook.toldOf(what);
    }

    public int sentence() {
        boolean read = newSaying.read(tape, net);
        tape.cut(0);
        if (!read) {
            return -1 - tape.faultAt();
        }
        saying.copyFrom(newSaying);
        return saying.ones();
    }

    public int said(int k) {
        if (!saying.stands()) {
            return NONE;
        }
        int of = saying.pointsOf(net);
        return k == NONE ? Integer.bitCount(of) : bitNumbered(of, k);
    }

    public boolean image(int k) {
        Picture picture = pictureAt(k);
        if (picture == null) {
            return false;
        }
        picture.take(net, saying);
        return true;
    }

    public boolean restore(int k) {
        Picture picture = pictureAt(k);
        if (picture == null || !picture.giveBack(net, saying)) {
            return false;
        }
        history.forget();
        return true;
    }

    public int count(int what) {
        switch (what) {
            case 0:
                return net.points();
            case 1:
                return net.links();
            case 2:
                return net.sets();
            case 3:
                return tape.length();
            default:
                return NONE;
        }
    }

    private Picture pictureAt(int k) {
        return k >= 0 && k < IMAGES ? pictures[k] : null;
    }

    private boolean areTwo(int p, int q) {
        return net.hasPoint(p) && net.hasPoint(q) && p != q;
    }

    private static boolean isPrice(int n) {
        return n >= 0 && n <= MOST_PRICE;
    }

    private int keepIfDone(int why) {
        if (why == 0) {
            history.keep();
        }
        return why;
    }

    private int noteFlaw(int kind, int at, int by) {
        flawAt = at;
        flawBy = by;
        return kind;
    }

    private boolean isAsking() {
        int length = tape.length();
        if (length < 2 || length > 12 || length % 2 != 0) {
            return false;
        }
        for (int i = 0; i < length; i += 2) {
            int partner = tape.signAt(i + 1);
            if (!net.hasPoint(tape.signAt(i)) || (partner != LONE_BYTE && !net.hasPoint(partner))) {
                return false;
            }
        }
        return true;
    }

    private static int commonDivisor(int a, int b) {
        int big = a;
        int small = b;
        // Euclid's steps on ints are fewer than 50
        for (int step = 0; step < 50 && small > 0; step++) {
            int left = big % small;
            big = small;
            small = left;
        }
        return big;
    }

    private static int bitNumbered(int bits, int k) {
        int left = k;
        for (int p = 0; p < MOST_POINTS; p++) {
            if ((bits >> p & 1) != 0) {
                if (left == 0) {
                    return p;
                }
                left--;
            }
        }
        return NONE;
    }

    /** A row of numbers, or of a text's bytes, that answers NONE wherever it has none. */
    private static final class Row {
        private final int[] items;
        private int length;

        Row(int most) {
            items = new int[Math.max(0, most)];
        }

        int size() {
            return length;
        }

        int at(int i) {
            return i >= 0 && i < length && i < items.length ? items[i] : NONE;
        }

        void clear() {
            length = 0;
        }

        void add(int item) {
            if (length >= 0 && length < items.length) {
                items[length] = item;
                length++;
            }
        }

        void dropTwo() {
            length = Math.max(0, length - 2);
        }

        void copyFrom(Row other) {
            length = 0;
            for (int i = 0; i < other.length; i++) {
                add(other.at(i));
            }
        }

        void addText(String text) {
            for (int i = 0; i < text.length(); i++) {
                add(text.charAt(i));
            }
        }

        void addName(long name) {
            for (int shift = 30; shift >= 0; shift -= 5) {
                int letter = (int) (name >> shift & 31);
                if (letter != 0) {
                    add('a' + letter - 1);
                }
            }
        }

        void addDigits(int n) {
            if (n >= 100) {
                add('0' + n / 100 % 10);
            }
            if (n >= 10) {
                add('0' + n / 10 % 10);
            }
            add('0' + n % 10);
        }
    }

    /** The bytes that were fed, and the TOKEN of them that is being read. */
    private static final class Tape {
        private final int[] bytes = new int[MOST_BYTES];
        private final long[] toldWords = new long[TOLD_COUNT];
        private int length;
        private int most;
        private int place;
        private boolean overlong;
        private int kind;
        private int start;
        private int number;
        private long word;
        private int faultKind;
        private int faultAt;

        Tape() {
            long packed = 0;
            int told = 0;
            for (int i = 0; i < TOLD_WORDS.length(); i++) {
                char sign = TOLD_WORDS.charAt(i);
                if (sign != ' ') {
                    packed = packed * 32 + (sign - 'a' + 1);
                } else if (told < TOLD_COUNT) {
                    toldWords[told] = packed;
                    told++;
                    packed = 0;
                }
            }
        }

        int length() {
            return length;
        }

        int signAt(int i) {
            return i >= 0 && i < length && i < MOST_BYTES ? bytes[i] : NONE;
        }

        void putFour(int four) {
            for (int shift = 24; shift >= 0; shift -= 8) {
                if (length >= 0 && length < MOST_BYTES) {
                    bytes[length] = four >>> shift & 255;
                    length++;
                }
            }
        }

        void cut(int n) {
            length = n;
        }

        int faultKind() {
            return faultKind;
        }

        int faultAt() {
            return faultAt;
        }

        int kind() {
            return kind;
        }

        long word() {
            return word;
        }

        /** Reads from the first byte on; a text may have so many bytes. */
        void begin(int limit) {
            overlong = length > limit;
            most = Math.min(length, limit);
            place = 0;
            faultKind = 0;
            faultAt = 0;
            advance();
        }

        void advance() {
            while (place >= 0 && place < most && place < MOST_BYTES && (bytes[place] == 32 || bytes[place] == 10)) {
                place++;
            }
            if (place >= most) {
                start = most;
                kind = END;
                return;
            }
            start = place;
            int sign = signAt(place);
            if (sign >= 'a' && sign <= 'z' || sign >= '0' && sign <= '9') {
                readChunk();
                return;
            }
            place++;
            kind = sign >= ';' && sign <= '>' || sign == '(' || sign == ')' ? sign : BAD;
        }

        /** Letters and digits that stand together are one WORD or NUMBER, or no TOKEN at all. */
        private void readChunk() {
            int letters = 0;
            int digits = 0;
            long packed = 0;
            int value = 0;
            for (; place >= 0 && place < length && place < MOST_BYTES; place++) {
                int sign = bytes[place];
                if (sign >= 'a' && sign <= 'z') {
                    letters++;
                    packed = packed * 32 + (sign - 'a' + 1);
                } else if (sign >= '0' && sign <= '9') {
                    digits++;
                    value = value * 10 + (sign - '0');
                } else {
                    break;
                }
            }
            kind = BAD;
            if (digits == 0 && letters <= 7) {
                word = packed;
                kind = NAME;
                for (int i = 0; i < TOLD_COUNT; i++) {
                    if (toldWords[i] == packed) {
                        kind = FIRST_WORD + i;
                    }
                }
            } else if (letters == 0 && digits <= 3) {
                number = value;
                kind = NUMBER;
            }
        }

        /** A FAULT at the TOKEN that is being read; false, so that readers can answer it on. */
        boolean fail(int why) {
            if (faultKind == 0) {
                faultKind = why;
                faultAt = start;
            }
            return false;
        }

        boolean take(int wanted) {
            if (kind != wanted) {
                return fail(CANNOT_COME);
            }
            advance();
            return true;
        }

        /** NONE behind a FAULT. */
        int takeNumber(int least, int greatest) {
            if (kind != NUMBER) {
                fail(CANNOT_COME);
                return NONE;
            }
            if (number < least || number > greatest) {
                fail(NOT_AS_TOLD);
                return NONE;
            }
            int taken = number;
            advance();
            return taken;
        }

        /** The POINT at hand, not gone past, so that a FAULT can still be told at it; NONE behind a FAULT. */
        int pointHere(Network net) {
            if (kind != NAME) {
                fail(CANNOT_COME);
                return NONE;
            }
            int p = net.pointNamed(word);
            if (p == NONE) {
                fail(WRONG_NAME);
            }
            return p;
        }

        /** NONE behind a FAULT. */
        int takePoint(Network net) {
            int p = pointHere(net);
            if (p != NONE) {
                advance();
            }
            return p;
        }

        boolean endsHere() {
            return kind == END && !overlong || fail(CANNOT_COME);
        }
    }

    /** POINTS, LINKS, pairs, prices and ODD sets, and the deeds that change them. */
    private static final class Network {
        private int points;
        private int links;
        private int sets;
        private int turned;
        private int shrunk;
        private final long[] name = new long[MOST_POINTS];
        private final int[] near = new int[MOST_POINTS];
        private final int[] partner = new int[MOST_POINTS];
        private final int[] price = new int[MOST_POINTS];
        private final int[] from = new int[MOST_LINKS];
        private final int[] to = new int[MOST_LINKS];
        private final int[] weight = new int[MOST_LINKS];
        /** The number of the LINK of two POINTS and 1; 0: they are not linked. */
        private final int[] linkAt = new int[MOST_POINTS * MOST_POINTS];
        private final int[] members = new int[MOST_SETS];
        private final int[] crowns = new int[MOST_SETS];

        void clear() {
            points = 0;
            links = 0;
            sets = 0;
            turned = 0;
            shrunk = 0;
            for (int i = 0; i < linkAt.length; i++) {
                linkAt[i] = 0;
            }
        }

        void copyFrom(Network other) {
            copyLinksFrom(other);
            sets = other.sets;
            turned = other.turned;
            shrunk = other.shrunk;
            System.arraycopy(other.name, 0, name, 0, MOST_POINTS);
            System.arraycopy(other.partner, 0, partner, 0, MOST_POINTS);
            System.arraycopy(other.price, 0, price, 0, MOST_POINTS);
            System.arraycopy(other.members, 0, members, 0, MOST_SETS);
            System.arraycopy(other.crowns, 0, crowns, 0, MOST_SETS);
        }

        void copyLinksFrom(Network other) {
            points = other.points;
            links = other.links;
            System.arraycopy(other.near, 0, near, 0, MOST_POINTS);
            System.arraycopy(other.from, 0, from, 0, MOST_LINKS);
            System.arraycopy(other.to, 0, to, 0, MOST_LINKS);
            System.arraycopy(other.weight, 0, weight, 0, MOST_LINKS);
            System.arraycopy(other.linkAt, 0, linkAt, 0, MOST_POINTS * MOST_POINTS);
        }

        boolean hasLinksOf(Network other) {
            if (points != other.points || links != other.links) {
                return false;
            }
            for (int l = 0; l < links && l < MOST_LINKS; l++) {
                if (from[l] != other.from[l] || to[l] != other.to[l] || weight[l] != other.weight[l]) {
                    return false;
                }
            }
            return true;
        }

        int points() {
            return points;
        }

        int links() {
            return links;
        }

        int sets() {
            return sets;
        }

        int turned() {
            return turned;
        }

        int shrunk() {
            return shrunk;
        }

        boolean hasPoint(int p) {
            return p >= 0 && p < points && p < MOST_POINTS;
        }

        boolean hasLink(int l) {
            return l >= 0 && l < links && l < MOST_LINKS;
        }

        boolean hasSet(int k) {
            return k >= 0 && k < sets && k < MOST_SETS;
        }

        void addPoint(long called) {
            if (points >= 0 && points < MOST_POINTS) {
                name[points] = called;
                near[points] = 0;
                partner[points] = NONE;
                price[points] = 0;
                points++;
            }
        }

        void addLink(int p, int q, int w) {
            if (links >= 0 && links < MOST_LINKS && hasPoint(p) && hasPoint(q)) {
                from[links] = p;
                to[links] = q;
                weight[links] = w;
                near[p] |= 1 << q;
                near[q] |= 1 << p;
                links++;
                linkAt[p * MOST_POINTS + q] = links;
                linkAt[q * MOST_POINTS + p] = links;
            }
        }

        void addSet(int bits, int n) {
            if (sets >= 0 && sets < MOST_SETS) {
                members[sets] = bits;
                crowns[sets] = n;
                sets++;
            }
        }

        int pointNamed(long called) {
            for (int p = 0; p < points && p < MOST_POINTS; p++) {
                if (name[p] == called) {
                    return p;
                }
            }
            return NONE;
        }

        long nameOf(int p) {
            return hasPoint(p) ? name[p] : 0;
        }

        int nearTo(int p) {
            return hasPoint(p) ? near[p] : 0;
        }

        int partnerOf(int p) {
            return hasPoint(p) ? partner[p] : NONE;
        }

        boolean isLone(int p) {
            return hasPoint(p) && partner[p] == NONE;
        }

        int priceOf(int p) {
            return hasPoint(p) ? price[p] : 0;
        }

        int fromOf(int l) {
            return hasLink(l) ? from[l] : NONE;
        }

        int toOf(int l) {
            return hasLink(l) ? to[l] : NONE;
        }

        int weightAt(int l) {
            return hasLink(l) ? weight[l] : 0;
        }

        boolean isPair(int l) {
            return hasLink(l) && partnerOf(from[l]) == to[l];
        }

        int membersOf(int k) {
            return hasSet(k) ? members[k] : 0;
        }

        int crownOf(int k) {
            return hasSet(k) ? crowns[k] : 0;
        }

        boolean areLinked(int p, int q) {
            return hasPoint(p) && hasPoint(q) && (near[p] >> q & 1) != 0;
        }

        int linkOf(int p, int q) {
            return hasPoint(p) && hasPoint(q) ? linkAt[p * MOST_POINTS + q] - 1 : NONE;
        }

        int weightOf(int p, int q) {
            return weightAt(linkOf(p, q));
        }

        int setOf(int bits) {
            for (int k = 0; k < sets && k < MOST_SETS; k++) {
                if (members[k] == bits) {
                    return k;
                }
            }
            return NONE;
        }

        int setsWith(int p) {
            int bits = 0;
            for (int k = 0; k < sets && k < MOST_SETS; k++) {
                if ((members[k] >> p & 1) != 0) {
                    bits |= 1 << k;
                }
            }
            return bits;
        }

        int slackOf(int l) {
            if (!hasLink(l)) {
                return 0;
            }
            int both = 1 << from[l] | 1 << to[l];
            int slack = priceOf(from[l]) + priceOf(to[l]) - 2 * weight[l];
            for (int k = 0; k < sets && k < MOST_SETS; k++) {
                if ((members[k] & both) == both) {
                    slack += crowns[k];
                }
            }
            return slack;
        }

        int tightLinks() {
            int bits = 0;
            for (int l = 0; l < links; l++) {
                if (slackOf(l) == 0) {
                    bits |= 1 << l;
                }
            }
            return bits;
        }

        int tightTo(int p) {
            int bits = 0;
            for (int l = 0; l < links; l++) {
                if (slackOf(l) == 0) {
                    bits |= otherEnd(l, p);
                }
            }
            return bits;
        }

        /** As a bit; none, if the LINK is not at the POINT. */
        private int otherEnd(int l, int p) {
            if (fromOf(l) == p) {
                return 1 << toOf(l);
            }
            return toOf(l) == p ? 1 << fromOf(l) : 0;
        }

        int tightPoints() {
            int bits = 0;
            for (int l = 0; l < links; l++) {
                if (slackOf(l) == 0) {
                    bits |= 1 << fromOf(l) | 1 << toOf(l);
                }
            }
            return bits;
        }

        int lonePoints() {
            int bits = 0;
            for (int p = 0; p < points; p++) {
                if (isLone(p)) {
                    bits |= 1 << p;
                }
            }
            return bits;
        }

        int pairs() {
            int paired = 0;
            for (int l = 0; l < links; l++) {
                if (isPair(l)) {
                    paired++;
                }
            }
            return paired;
        }

        int total() {
            int sum = 0;
            for (int l = 0; l < links; l++) {
                if (isPair(l)) {
                    sum += weightAt(l);
                }
            }
            return sum;
        }

        int pairsWithin(int k) {
            int set = membersOf(k);
            int within = 0;
            for (int l = 0; l < links; l++) {
                if (isPair(l) && (set >> fromOf(l) & set >> toOf(l) & 1) != 0) {
                    within++;
                }
            }
            return within;
        }

        /** The most pairs that an ODD set has room for. */
        private int fullPairs(int k) {
            return (Integer.bitCount(membersOf(k)) - 1) / 2;
        }

        int bound() {
            int sum = 0;
            for (int p = 0; p < points; p++) {
                sum += priceOf(p);
            }
            for (int k = 0; k < sets; k++) {
                sum += crownOf(k) * fullPairs(k);
            }
            return sum;
        }

        int roomOf(int p) {
            int room = priceOf(p);
            for (int l = 0; l < links; l++) {
                if (otherEnd(l, p) != 0) {
                    room = Math.min(room, slackOf(l));
                }
            }
            return Math.max(0, room);
        }

        int firstLinkBelow() {
            for (int l = 0; l < links; l++) {
                if (slackOf(l) < 0) {
                    return l;
                }
            }
            return NONE;
        }

        int firstLoosePair() {
            for (int l = 0; l < links; l++) {
                if (isPair(l) && slackOf(l) != 0) {
                    return l;
                }
            }
            return NONE;
        }

        int firstPricedLone() {
            for (int p = 0; p < points; p++) {
                if (isLone(p) && priceOf(p) > 0) {
                    return p;
                }
            }
            return NONE;
        }

        int firstCrownedUnfilled() {
            for (int k = 0; k < sets; k++) {
                if (crownOf(k) > 0 && pairsWithin(k) < fullPairs(k)) {
                    return k;
                }
            }
            return NONE;
        }

        int pairUp(int p, int q) {
            if (!areLinked(p, q)) {
                return 1;
            }
            if (partner[p] != NONE || partner[q] != NONE) {
                return 2;
            }
            partner[p] = q;
            partner[q] = p;
            return 0;
        }

        int partFrom(int p) {
            int q = partnerOf(p);
            if (!hasPoint(p) || !hasPoint(q)) {
                return 1;
            }
            partner[p] = NONE;
            partner[q] = NONE;
            return 0;
        }

        int weighAnew(int p, int q, int w) {
            int l = linkOf(p, q);
            if (!hasLink(l)) {
                return 1;
            }
            if (weight[l] == w) {
                return 2;
            }
            weight[l] = w;
            return 0;
        }

        int priceAt(int p, int n) {
            if (!hasPoint(p) || price[p] == n) {
                return 1;
            }
            price[p] = n;
            return 0;
        }

        int crownAt(int k, int n) {
            if (!hasSet(k) || crowns[k] == n) {
                return 1;
            }
            crowns[k] = n;
            return 0;
        }

        int openSet(int k) {
            if (!hasSet(k) || crowns[k] > 0) {
                return 1;
            }
            for (int i = k; i + 1 < sets && i + 1 < MOST_SETS; i++) {
                members[i] = members[i + 1];
                crowns[i] = crowns[i + 1];
            }
            sets--;
            return 0;
        }

        int turnAlong(Row row) {
            int last = row.size() - 1;
            if (last < 1 || !isLone(row.at(0)) || !isLone(row.at(last)) || !goesByPairs(row)) {
                return 1;
            }
            for (int i = 0; i + 1 <= last; i += 2) {
                int p = row.at(i);
                int q = row.at(i + 1);
                if (hasPoint(p) && hasPoint(q)) {
                    partner[p] = q;
                    partner[q] = p;
                }
            }
            turned++;
            return 0;
        }

        int shrinkAlong(Row row) {
            int last = row.size() - 1;
            if (last < 2 || !goesByPairs(row) || !areLinked(row.at(last), row.at(0))) {
                return 1;
            }
            int bits = 0;
            for (int i = 0; i <= last; i++) {
                bits |= 1 << row.at(i);
            }
            if (setOf(bits) != NONE) {
                return 2;
            }
            if (sets >= MOST_SETS) {
                return 3;
            }
            addSet(bits, 0);
            shrunk++;
            return 0;
        }

        /** Whether a row found once is still LINKED on, its second and third POINT, and so on, being pairs. */
        private boolean goesByPairs(Row row) {
            for (int i = 0; i + 1 < row.size(); i++) {
                if (!areLinked(row.at(i), row.at(i + 1))) {
                    return false;
                }
                if (i % 2 == 1 && partnerOf(row.at(i)) != row.at(i + 1)) {
                    return false;
                }
            }
            return true;
        }
    }

    /** Reads a text to a NETWORK of its own, so that a FAULT leaves the present one as it is. */
    private static final class NetworkText {
        private final Network told = new Network();
        private int lines;
        private int priced;

        Network result() {
            return told;
        }

        int lines() {
            return lines;
        }

        boolean read(Tape tape) {
            told.clear();
            priced = 0;
            tape.begin(NETWORK_BYTES);
            for (lines = 0; lines < MOST_BYTES && tape.kind() != END; lines++) {
                if (!readLine(tape) || !tape.take(';')) {
                    return false;
                }
            }
            return tape.endsHere();
        }

        private boolean readLine(Tape tape) {
            switch (tape.kind()) {
                case POINT_WORD:
                    return told.points() < MOST_POINTS ? readPoint(tape) : tape.fail(TOO_MANY);
                case LINK_WORD:
                    return told.links() < MOST_LINKS ? readLink(tape) : tape.fail(TOO_MANY);
                case PAIR_WORD:
                    return readPair(tape);
                case PRICE_WORD:
                    return readPrice(tape);
                case ODD_WORD:
                    return told.sets() < MOST_SETS ? readSet(tape) : tape.fail(TOO_MANY);
                default:
                    return tape.fail(CANNOT_COME);
            }
        }

        private boolean readPoint(Tape tape) {
            tape.advance();
            if (tape.kind() != NAME) {
                return tape.fail(CANNOT_COME);
            }
            if (told.pointNamed(tape.word()) != NONE) {
                return tape.fail(WRONG_NAME);
            }
            told.addPoint(tape.word());
            tape.advance();
            return true;
        }

        private boolean readLink(Tape tape) {
            tape.advance();
            int p = tape.takePoint(told);
            int q = p == NONE ? NONE : tape.pointHere(told);
            if (q == NONE) {
                return false;
            }
            if (p == q || told.areLinked(p, q)) {
                return tape.fail(WRONG_NAME);
            }
            tape.advance();
            int w = tape.takeNumber(1, MOST_WEIGHT);
            if (w == NONE) {
                return false;
            }
            told.addLink(p, q, w);
            return true;
        }

        private boolean readPair(Tape tape) {
            tape.advance();
            int p = tape.takePoint(told);
            int q = p == NONE ? NONE : tape.pointHere(told);
            if (q == NONE) {
                return false;
            }
            // points alike are not linked either
            if (told.pairUp(p, q) != 0) {
                return tape.fail(WRONG_NAME);
            }
            tape.advance();
            return true;
        }

        private boolean readPrice(Tape tape) {
            tape.advance();
            int p = tape.pointHere(told);
            if (p == NONE) {
                return false;
            }
            if ((priced >> p & 1) != 0) {
                return tape.fail(WRONG_NAME);
            }
            tape.advance();
            int n = tape.takeNumber(0, MOST_PRICE);
            if (n == NONE) {
                return false;
            }
            priced |= 1 << p;
            told.priceAt(p, n);
            return true;
        }

        private boolean readSet(Tape tape) {
            tape.advance();
            int n = tape.takeNumber(0, MOST_PRICE);
            if (n == NONE) {
                return false;
            }
            int bits = 0;
            for (int size = 0; size < 9; size++) {
                if (tape.kind() == ';' && size >= 3 && size % 2 == 1) {
                    break;
                }
                int p = tape.pointHere(told);
                if (p == NONE) {
                    return false;
                }
                if ((bits >> p & 1) != 0) {
                    return tape.fail(WRONG_NAME);
                }
                bits |= 1 << p;
                tape.advance();
            }
            // a set told ahead is told at the ; and only if that can come
            if (tape.kind() == ';' && told.setOf(bits) != NONE) {
                return tape.fail(WRONG_NAME);
            }
            told.addSet(bits, n);
            return true;
        }
    }

    /** The LINES of a BOOK, and what was told of the latest one. */
    private static final class Book {
        private final int[] kind = new int[MOST_ITEMS];
        private final int[] first = new int[MOST_ITEMS];
        private final int[] second = new int[MOST_ITEMS];
        private final int[] third = new int[MOST_ITEMS];
        private int lines;
        private boolean judged;
        private int why;
        private int right;
        private int total;
        private int bound;

        int toldOf(int what) {
            if (!judged) {
                return NONE;
            }
            switch (what) {
                case 0:
                    return why;
                case 1:
                    return right;
                case 2:
                    return total;
                case 3:
                    return bound;
                default:
                    return NONE;
            }
        }

        boolean read(Tape tape, Network net) {
            lines = 0;
            tape.begin(BOOK_BYTES);
            for (int i = 0; i <= MOST_ITEMS && tape.kind() != END; i++) {
                if (!readLine(tape, net) || !tape.take(';')) {
                    return false;
                }
                lines++;
            }
            return tape.endsHere();
        }

        private boolean readLine(Tape tape, Network net) {
            int word = tape.kind();
            if (!isDeed(word)) {
                return tape.fail(CANNOT_COME);
            }
            if (lines < 0 || lines >= MOST_ITEMS) {
                return tape.fail(TOO_MANY);
            }
            kind[lines] = word;
            tape.advance();
            switch (word) {
                case PAIR_WORD:
                    return readTwo(tape, net);
                case WEIGH_WORD:
                    return readTwo(tape, net) && readThird(tape, 1, MOST_WEIGHT);
                case PRICE_WORD:
                    return readFirst(tape, net) && readThird(tape, 0, MOST_PRICE);
                case CROWN_WORD:
                    return readNumber(tape) && readThird(tape, 0, MOST_PRICE);
                case OPEN_WORD:
                    return readNumber(tape);
                default:
                    return readFirst(tape, net);
            }
        }

        private static boolean isDeed(int word) {
            return word == PAIR_WORD || word == PRICE_WORD || word >= PART_WORD && word <= GROW_WORD;
        }

        private boolean readFirst(Tape tape, Network net) {
            int p = tape.takePoint(net);
            if (p == NONE || lines < 0 || lines >= MOST_ITEMS) {
                return false;
            }
            first[lines] = p;
            return true;
        }

        private boolean readTwo(Tape tape, Network net) {
            if (!readFirst(tape, net)) {
                return false;
            }
            int q = tape.pointHere(net);
            if (q == NONE || lines < 0 || lines >= MOST_ITEMS) {
                return false;
            }
            if (q == first[lines]) {
                return tape.fail(WRONG_NAME);
            }
            second[lines] = q;
            tape.advance();
            return true;
        }

        private boolean readNumber(Tape tape) {
            int k = tape.takeNumber(0, MOST_SETS - 1);
            if (k == NONE || lines < 0 || lines >= MOST_ITEMS) {
                return false;
            }
            first[lines] = k;
            return true;
        }

        private boolean readThird(Tape tape, int least, int most) {
            int n = tape.takeNumber(least, most);
            if (n == NONE || lines < 0 || lines >= MOST_ITEMS) {
                return false;
            }
            third[lines] = n;
            return true;
        }

        /** Does the LINES to the NETWORK up to one that is WRONG, which it answers. */
        int judge(Network net, Search search) {
            judged = true;
            why = 0;
            right = 0;
            for (int i = 0; i < lines && why == 0; i++) {
                why = live(i, net, search);
                if (why == 0) {
                    right++;
                }
            }
            total = net.total();
            bound = net.bound();
            return why == 0 ? NONE : right;
        }

        private int live(int i, Network net, Search search) {
            if (i < 0 || i >= MOST_ITEMS) {
                return 0;
            }
            int p = first[i];
            switch (kind[i]) {
                case PAIR_WORD:
                    return net.pairUp(p, second[i]);
                case PART_WORD:
                    return behind(10, net.partFrom(p));
                case WEIGH_WORD:
                    return behind(20, net.weighAnew(p, second[i], third[i]));
                case PRICE_WORD:
                    return behind(30, net.priceAt(p, third[i]));
                case CROWN_WORD:
                    return net.hasSet(p) ? behind(40, net.crownAt(p, third[i])) : 49;
                case OPEN_WORD:
                    return net.hasSet(p) ? behind(50, net.openSet(p)) : 59;
                default:
                    return behind(60, search.growFrom(net, p));
            }
        }

        private static int behind(int base, int reason) {
            return reason == 0 ? 0 : base + reason;
        }
    }

    /** A SENTENCE, its parts in the order in which they can be reckoned with a pile of sets of POINTS. */
    private static final class Saying {
        private static final int MOST_ONES = 20;
        private static final int MOST_WITHIN = 8;
        private final int[] part = new int[MOST_ITEMS];
        private final int[] sign = new int[MOST_ITEMS];
        private final int[] value = new int[MOST_ITEMS];
        private final int[] pile = new int[MOST_ITEMS];
        private int parts;
        private int ones;
        private boolean stands;

        boolean stands() {
            return stands;
        }

        int ones() {
            return ones;
        }

        void clear() {
            stands = false;
            parts = 0;
            ones = 0;
        }

        void copyFrom(Saying other) {
            parts = other.parts;
            ones = other.ones;
            stands = other.stands;
            System.arraycopy(other.part, 0, part, 0, MOST_ITEMS);
            System.arraycopy(other.sign, 0, sign, 0, MOST_ITEMS);
            System.arraycopy(other.value, 0, value, 0, MOST_ITEMS);
        }

        boolean read(Tape tape, Network net) {
            clear();
            tape.begin(SENTENCE_BYTES);
            stands = readCond(tape, net, 1) && tape.endsHere();
            return stands;
        }

        private boolean readCond(Tape tape, Network net, int depth) {
            if (!readAll(tape, net, depth)) {
                return false;
            }
            for (int i = 0; i < MOST_ITEMS && tape.kind() == OR_WORD; i++) {
                tape.advance();
                if (!readAll(tape, net, depth)) {
                    return false;
                }
                put(OR_WORD, 0, 0);
            }
            return true;
        }

        private boolean readAll(Tape tape, Network net, int depth) {
            if (!readOne(tape, net, depth)) {
                return false;
            }
            for (int i = 0; i < MOST_ITEMS && tape.kind() == AND_WORD; i++) {
                tape.advance();
                if (!readOne(tape, net, depth)) {
                    return false;
                }
                put(AND_WORD, 0, 0);
            }
            return true;
        }

        private boolean readOne(Tape tape, Network net, int depth) {
            int word = tape.kind();
            if (word != '(' && (word < NOT_WORD || word > NUMBER_WORD)) {
                return tape.fail(CANNOT_COME);
            }
            if (ones >= MOST_ONES || depth > MOST_WITHIN) {
                return tape.fail(TOO_MANY);
            }
            ones++;
            tape.advance();
            switch (word) {
                case NOT_WORD:
                    return readOne(tape, net, depth + 1) && put(NOT_WORD, 0, 0);
                case '(':
                    return readCond(tape, net, depth + 1) && tape.take(')');
                case LONE_WORD:
                case TIGHT_WORD:
                    return put(word, 0, 0);
                case WITH_WORD:
                case LINKED_WORD:
                    return putIfRead(word, 0, tape.takePoint(net));
                case IN_WORD:
                    return putIfRead(word, 0, tape.takeNumber(0, MOST_SETS - 1));
                default:
                    int compared = tape.kind();
                    if (compared != '<' && compared != '=' && compared != '>') {
                        return tape.fail(CANNOT_COME);
                    }
                    tape.advance();
                    return putIfRead(word, compared, tape.takeNumber(0, 999));
            }
        }

        private boolean putIfRead(int word, int compared, int read) {
            return read != NONE && put(word, compared, read);
        }

        private boolean put(int word, int compared, int number) {
            if (parts < 0 || parts >= MOST_ITEMS) {
                return false;
            }
            part[parts] = word;
            sign[parts] = compared;
            value[parts] = number;
            parts++;
            return true;
        }

        /** POINTS of which it may be said, as bits. */
        int pointsOf(Network net) {
            int height = 0;
            int all = (1 << net.points()) - 1;
            pile[0] = 0;
            for (int i = 0; i < parts && i < MOST_ITEMS; i++) {
                int word = part[i];
                if (word == NOT_WORD && height >= 1 && height <= MOST_ITEMS) {
                    pile[height - 1] = all & ~pile[height - 1];
                } else if (word == AND_WORD && height >= 2 && height <= MOST_ITEMS) {
                    pile[height - 2] &= pile[height - 1];
                    height--;
                } else if (word == OR_WORD && height >= 2 && height <= MOST_ITEMS) {
                    pile[height - 2] |= pile[height - 1];
                    height--;
                } else if (height >= 0 && height < MOST_ITEMS) {
                    pile[height] = pointsOfOne(net, word, sign[i], value[i]);
                    height++;
                }
            }
            return pile[0];
        }

        private static int pointsOfOne(Network net, int word, int compared, int number) {
            switch (word) {
                case LONE_WORD:
                    return net.lonePoints();
                case TIGHT_WORD:
                    return net.tightPoints();
                case WITH_WORD:
                    return net.partnerOf(number) == NONE ? 0 : 1 << net.partnerOf(number);
                case LINKED_WORD:
                    return net.nearTo(number);
                case IN_WORD:
                    return net.membersOf(number);
                default:
                    return pointsCompared(net, word, compared, number);
            }
        }

        private static int pointsCompared(Network net, int word, int compared, int number) {
            int bits = 0;
            for (int p = 0; p < net.points(); p++) {
                int measure = measureOf(net, word, p);
                if (compared == '<' ? measure < number : compared == '=' ? measure == number : measure > number) {
                    bits |= 1 << p;
                }
            }
            return bits;
        }

        private static int measureOf(Network net, int word, int p) {
            switch (word) {
                case PRICED_WORD:
                    return net.priceOf(p);
                case LINKS_WORD:
                    return Integer.bitCount(net.nearTo(p));
                case WEIGHT_WORD:
                    return net.weightOf(p, net.partnerOf(p));
                default:
                    return p;
            }
        }
    }

    /** Goes along LINKS by turns of pairs and not. */
    private static final class Search {
        private final Row row = new Row(MOST_POINTS);
        private int greatest;

        Row row() {
            return row;
        }

        /** Fewest LINKS first, and least POINTS first among them, so that the first one found is due. */
        boolean findPath(Network net, int p) {
            return net.isLone(p) && findRow(net, p, 0, false);
        }

        boolean findFlower(Network net, int p) {
            return net.hasPoint(p) && findRow(net, p, 1, true);
        }

        private boolean findRow(Network net, int p, int fewest, boolean closed) {
            for (int pairs = fewest; pairs < MOST_PAIRS; pairs++) {
                row.clear();
                row.add(p);
                if (goOn(net, 1 << p, pairs, closed)) {
                    return true;
                }
            }
            return false;
        }

        /** Lengthens the row by so many pairs, then to a lone POINT, or, closed, to where it began. */
        private boolean goOn(Network net, int seen, int pairs, boolean closed) {
            int at = row.at(row.size() - 1);
            if (pairs <= 0 && closed) {
                return net.areLinked(at, row.at(0));
            }
            int near = net.nearTo(at) & ~seen;
            for (int p = 0; p < MOST_POINTS; p++) {
                if ((near >> p & 1) == 0) {
                    continue;
                }
                int q = net.partnerOf(p);
                if (pairs <= 0 && q == NONE) {
                    row.add(p);
                    return true;
                }
                if (pairs > 0 && q != NONE && (seen >> q & 1) == 0) {
                    row.add(p);
                    row.add(q);
                    if (goOn(net, seen | 1 << p | 1 << q, pairs - 1, closed)) {
                        return true;
                    }
                    row.dropTwo();
                }
            }
            return false;
        }

        /** To GROW a POINT: 0, or why not. */
        int growFrom(Network net, int p) {
            if (!net.isLone(p)) {
                return 1;
            }
            if (!findRow(net, p, 0, false)) {
                return 2;
            }
            net.turnAlong(row);
            return 0;
        }

        int greatestGain(Network net) {
            greatest = 0;
            for (int p = 0; p < net.points(); p++) {
                int q = net.partnerOf(p);
                if (q == NONE) {
                    strokeOn(net, p, p, 1 << p, 0, MOST_PAIRS);
                } else {
                    strokeOn(net, p, q, 1 << p | 1 << q, -net.weightOf(p, q), MOST_PAIRS);
                }
            }
            return greatest;
        }

        /** A stroke that began at one POINT is at another, which is free now; it can go through so many pairs more. */
        private void strokeOn(Network net, int began, int at, int seen, int gained, int left) {
            greatest = Math.max(greatest, gained);
            // only a row of two pairs and more can be closed by a LINK that is not in it
            if (Integer.bitCount(seen) >= 4 && !net.isLone(began) && net.areLinked(at, began)) {
                greatest = Math.max(greatest, gained + net.weightOf(at, began));
            }
            int near = net.nearTo(at) & ~seen;
            for (int p = 0; p < MOST_POINTS; p++) {
                if ((near >> p & 1) == 0) {
                    continue;
                }
                int more = gained + net.weightOf(at, p);
                int q = net.partnerOf(p);
                if (q == NONE) {
                    greatest = Math.max(greatest, more);
                } else if (left > 0) {
                    strokeOn(net, began, q, seen | 1 << p | 1 << q, more - net.weightOf(p, q), left - 1);
                }
            }
        }
    }

    /** All pairings, reckoned from sets of POINTS that are free; each set is looked at once. */
    private static final class Heaviest {
        private static final int ALL_SETS = 1024;
        /** Taking the least free POINT first, 144 sets at most are met. */
        private static final int MOST_SLOTS = 144;
        private static final int SIZES = 6;
        private static final int LONE = 10;
        private static final int KINDS = 11;
        private final Network known = new Network();
        private boolean ready;
        private boolean fatesReady;
        private int all;
        private final int[] slotOf = new int[ALL_SETS];
        private int slots;
        private final int[] tops = new int[MOST_SLOTS];
        private final int[] seconds = new int[MOST_SLOTS];
        private final int[] ways = new int[MOST_SLOTS * SIZES];
        private final int[] heavies = new int[MOST_SLOTS * SIZES];
        private final int[] wanted = new int[MOST_POINTS];
        private boolean contradicted;
        private final int[] chosen = new int[MOST_POINTS];
        private final int[] tally = new int[MOST_POINTS * KINDS];
        private final int[] fate = new int[MOST_LINKS];
        private int matching;

        /** What the others tell is of these LINKS; reckoned anew only if they are not the known ones. */
        void lookAt(Network net) {
            if (ready && known.hasLinksOf(net)) {
                return;
            }
            known.copyLinksFrom(net);
            ready = true;
            fatesReady = false;
            slots = 0;
            for (int i = 0; i < ALL_SETS; i++) {
                slotOf[i] = NONE;
            }
            all = (1 << known.points()) - 1;
            slotFor(all, 0);
        }

        int top() {
            return topFor(all);
        }

        int second() {
            return seconds[slotKnown(all)];
        }

        int heaviestOf(int k) {
            return k >= 0 && k < SIZES ? heavies[slotKnown(all) * SIZES + k] : NONE;
        }

        int countOf(int k) {
            return k >= 0 && k < SIZES ? ways[slotKnown(all) * SIZES + k] : 0;
        }

        private int slotKnown(int free) {
            int slot = free >= 0 && free < ALL_SETS ? slotOf[free] : 0;
            return slot >= 0 && slot < MOST_SLOTS ? slot : 0;
        }

        private int topFor(int free) {
            return tops[slotKnown(free)];
        }

        private int slotFor(int free, int depth) {
            if (free < 0 || free >= ALL_SETS || depth > MOST_POINTS) {
                return 0;
            }
            if (slotOf[free] != NONE) {
                return slotKnown(free);
            }
            int slot = slots;
            if (slot < 0 || slot >= MOST_SLOTS) {
                return 0;
            }
            slots++;
            slotOf[free] = slot;
            startSlot(slot, free == 0);
            if (free == 0) {
                return slot;
            }
            int p = leastOf(free);
            int rest = free & ~(1 << p);
            addWays(slot, slotFor(rest, depth + 1), 0, 0);
            int near = known.nearTo(p) & rest;
            for (int q = p + 1; q < MOST_POINTS; q++) {
                if ((near >> q & 1) != 0) {
                    addWays(slot, slotFor(rest & ~(1 << q), depth + 1), known.weightOf(p, q), 1);
                }
            }
            return slot;
        }

        private static int leastOf(int bits) {
            for (int p = 0; p < MOST_POINTS; p++) {
                if ((bits >> p & 1) != 0) {
                    return p;
                }
            }
            return 0;
        }

        private void startSlot(int slot, boolean empty) {
            for (int k = 0; k < SIZES; k++) {
                ways[slot * SIZES + k] = 0;
                heavies[slot * SIZES + k] = NONE;
            }
            tops[slot] = NONE;
            seconds[slot] = NONE;
            if (empty) {
                ways[slot * SIZES] = 1;
                heavies[slot * SIZES] = 0;
                tops[slot] = 0;
            }
        }

        /** All pairings of another slot are ones of this slot with a pair more, or none more. */
        private void addWays(int slot, int other, int weight, int more) {
            for (int k = 0; k + more < SIZES; k++) {
                int here = slot * SIZES + k + more;
                int there = other * SIZES + k;
                if (ways[there] > 0) {
                    ways[here] += ways[there];
                    heavies[here] = Math.max(heavies[here], heavies[there] + weight);
                }
            }
            addTotal(slot, tops[other] + weight);
            if (seconds[other] != NONE) {
                addTotal(slot, seconds[other] + weight);
            }
        }

        private void addTotal(int slot, int total) {
            if (total > tops[slot]) {
                seconds[slot] = tops[slot];
                tops[slot] = total;
            } else if (total < tops[slot] && total > seconds[slot]) {
                seconds[slot] = total;
            }
        }

        /** The first BEST pairing: each POINT in turn takes the least partner that can still reach the top. */
        void bestInto(Row partners) {
            int free = all;
            for (int p = 0; p < MOST_POINTS; p++) {
                if ((free >> p & 1) == 0) {
                    continue;
                }
                chosen[p] = NONE;
                int q = firstBestPartner(p, free);
                if (q != NONE) {
                    choose(p, q);
                    free &= ~(1 << q);
                }
                free &= ~(1 << p);
            }
            partners.clear();
            for (int p = 0; p < known.points() && p < MOST_POINTS; p++) {
                partners.add(chosen[p]);
            }
        }

        private int firstBestPartner(int p, int free) {
            int near = known.nearTo(p) & free;
            for (int q = p + 1; q < MOST_POINTS; q++) {
                if ((near >> q & 1) != 0 && keepsTop(p, q, free)) {
                    return q;
                }
            }
            return NONE;
        }

        private boolean keepsTop(int p, int q, int free) {
            int rest = free & ~(1 << p) & ~(1 << q);
            return topFor(rest) + known.weightOf(p, q) == topFor(free);
        }

        private void choose(int p, int q) {
            if (p >= 0 && p < MOST_POINTS && q >= 0 && q < MOST_POINTS) {
                chosen[p] = q;
                chosen[q] = p;
            }
        }

        int fateOf(int l) {
            if (!fatesReady) {
                wantNothing();
                countWanted();
                for (int i = 0; i < MOST_LINKS; i++) {
                    int among = tallyAt(known.fromOf(i), known.toOf(i));
                    fate[i] = among == 0 ? 0 : among < matching ? 1 : 2;
                }
                fatesReady = true;
            }
            return l >= 0 && l < MOST_LINKS ? fate[l] : NONE;
        }

        void wantNothing() {
            contradicted = false;
            for (int p = 0; p < MOST_POINTS; p++) {
                wanted[p] = NONE;
            }
        }

        void want(int p, int partnerByte) {
            int kind = partnerByte == LONE_BYTE ? LONE : partnerByte;
            if (p < 0 || p >= MOST_POINTS || wanted[p] != NONE && wanted[p] != kind) {
                contradicted = true;
                return;
            }
            wanted[p] = kind;
        }

        /** How many BEST pairings are as wanted; they are tallied. */
        int countWanted() {
            matching = 0;
            for (int i = 0; i < tally.length; i++) {
                tally[i] = 0;
            }
            if (!contradicted) {
                walkBest(all, 0);
            }
            return matching;
        }

        private void walkBest(int free, int depth) {
            if (free == 0) {
                tallyChosen();
                return;
            }
            if (depth >= MOST_POINTS) {
                return;
            }
            int p = leastOf(free);
            int rest = free & ~(1 << p);
            int near = known.nearTo(p) & rest;
            for (int q = p + 1; q < MOST_POINTS; q++) {
                if ((near >> q & 1) != 0 && mayBe(p, q) && mayBe(q, p) && keepsTop(p, q, free)) {
                    choose(p, q);
                    walkBest(rest & ~(1 << q), depth + 1);
                }
            }
            if (mayBe(p, LONE) && topFor(rest) == topFor(free)) {
                chosen[p] = LONE;
                walkBest(rest, depth + 1);
            }
        }

        private boolean mayBe(int p, int kind) {
            return p >= 0 && p < MOST_POINTS && (wanted[p] == NONE || wanted[p] == kind);
        }

        private void tallyChosen() {
            matching++;
            for (int p = 0; p < known.points() && p < MOST_POINTS; p++) {
                int kind = chosen[p];
                if (kind >= 0 && kind < KINDS) {
                    tally[p * KINDS + kind]++;
                }
            }
        }

        private int tallyAt(int p, int kind) {
            return p >= 0 && p < MOST_POINTS && kind >= 0 && kind < KINDS ? tally[p * KINDS + kind] : 0;
        }

        /** ASK, of those that were tallied. */
        int mostTelling() {
            int telling = NONE;
            int least = 0;
            for (int p = 0; p < known.points(); p++) {
                int greatest = 0;
                for (int kind = 0; kind < KINDS; kind++) {
                    greatest = Math.max(greatest, tallyAt(p, kind));
                }
                if (telling == NONE || greatest < least) {
                    telling = p;
                    least = greatest;
                }
            }
            return telling;
        }
    }

    /** The NETWORK as it was ahead of the latest deeds: a ring, with one place more than is kept. */
    private static final class History {
        private static final int MOST_KEPT = 8;
        private static final int PLACES = 9;
        private final Network[] before = new Network[PLACES];
        private int at;
        private int kept;

        History() {
            for (int i = 0; i < PLACES; i++) {
                before[i] = new Network();
            }
        }

        void forget() {
            kept = 0;
        }

        /** Notes how it is ahead of a deed; it counts once keep() says that the deed was done. */
        void mark(Network net) {
            Network place = before[Math.floorMod(at, PLACES)];
            if (place != null) {
                place.copyFrom(net);
            }
        }

        void keep() {
            at = (at + 1) % PLACES;
            kept = Math.min(MOST_KEPT, kept + 1);
        }

        int takeBack(Network net) {
            if (kept <= 0) {
                return NONE;
            }
            kept--;
            at = Math.floorMod(at - 1, PLACES);
            Network place = before[at];
            if (place != null) {
                net.copyFrom(place);
            }
            return kept;
        }
    }

    /** DEEDS DRAWN by a seed. */
    private static final class Draws {
        private int x;

        int run(Network net, Search search, int deeds, int seed) {
            if (net.points() < 1) {
                return 0;
            }
            x = seed;
            int done = 0;
            for (int i = 0; i < deeds; i++) {
                if (isDone(net, search)) {
                    done++;
                }
            }
            return done;
        }

        private int draw(int n) {
            x = x * 1103515245 + 12345;
            return (x >>> 8) % Math.max(1, n);
        }

        private boolean isDone(Network net, Search search) {
            int points = net.points();
            switch (draw(7)) {
                case 0:
                    return pairTwo(net, draw(points), draw(points));
                case 1:
                    return net.partFrom(draw(points)) == 0;
                case 2:
                    return net.links() > 0 && weighOne(net);
                case 3:
                    return net.priceAt(draw(points), draw(60)) == 0;
                case 4:
                case 5:
                    return search.growFrom(net, draw(points)) == 0;
                default:
                    return net.sets() > 0 && crownOne(net);
            }
        }

        private static boolean pairTwo(Network net, int p, int q) {
            return p != q && net.pairUp(p, q) == 0;
        }

        private boolean weighOne(Network net) {
            int l = draw(net.links());
            int w = draw(30) + 1;
            return net.weighAnew(net.fromOf(l), net.toOf(l), w) == 0;
        }

        private boolean crownOne(Network net) {
            return net.crownAt(draw(net.sets()), draw(20)) == 0;
        }
    }

    /** A place where an image is kept. */
    private static final class Picture {
        private final Network kept = new Network();
        private final Saying keptSaying = new Saying();
        private boolean filled;

        void take(Network net, Saying saying) {
            kept.copyFrom(net);
            keptSaying.copyFrom(saying);
            filled = true;
        }

        boolean giveBack(Network net, Saying saying) {
            if (filled) {
                net.copyFrom(kept);
                saying.copyFrom(keptSaying);
            }
            return filled;
        }
    }
}
