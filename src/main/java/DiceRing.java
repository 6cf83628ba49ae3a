import java.util.Arrays;
import java.util.NoSuchElementException;

/** Dice that beat one another: told in a language, compared, ringed, re-faced, laid in words, picked and thrown. */
public final class DiceRing {
    public static final int NONE = -1;

    private static final int MOST_TAPE = 540;
    private static final int FED_AT_ONCE = 20;
    private static final int MOST_TEXT = 500;
    private static final int MOST_NAMES = 12;
    private static final int MOST_FACES = 12;
    private static final int MOST_FACE = 60;
    private static final int MOST_NUMBER = 200;
    private static final int MOST_THROWS = 4;
    private static final long MOST_WAYS = 1000000000L;
    private static final long MOST_SPREAD_WAYS = 1000000L;
    private static final int MOST_PICKED = 7;
    private static final int MOST_OTHER_FACES = 8;
    private static final int MOST_DICE_IN_WORD = 4;
    private static final int MOST_FACES_IN_WORD = 6;
    private static final int MOST_SOUGHT_LETTERS = 12;
    private static final int MOST_PAIRS_TOLD = 12;
    private static final int MOST_ROLLS = 20;
    private static final long WHOLE_PARTS = 1000000000000000L;
    private static final int MOST_MEETING_WAYS = 1000;
    private static final int MOST_MET = 200;
    private static final int NO_SHIFT = 1000;
    private static final int NOT_TOLD = -2;

    private final int[] tape = new int[MOST_TAPE];
    private int tapeLength;
    private Table now = new Table();
    private final Teller teller = new Teller();
    private int faultKind;
    private final Net net = new Net();
    private boolean netIsOld;
    private final Game game = new Game();
    private final FaceSearch faceSearch = new FaceSearch();
    private final WordCount wordCount = new WordCount();
    private final WordSearch wordSearch = new WordSearch();
    private final long[] parts = new long[MOST_NAMES];
    private final long[] met = new long[MOST_MET + 1];
    private final Row firstThrown = new Row(true);
    private final Row secondThrown = new Row(true);
    private final Row thrownSpare = new Row(true);

    public DiceRing() {
    }

    // ---- the tape and the TABLE

    public int feed(int a, int b, int c, int d, int e) {
        if (tapeLength + FED_AT_ONCE > MOST_TAPE) {
            return NONE;
        }
        feedNumber(a);
        feedNumber(b);
        feedNumber(c);
        feedNumber(d);
        feedNumber(e);
        return tapeLength;
    }

    private void feedNumber(int number) {
        for (int bits = 24; bits >= 0; bits -= 8) {
            if (tapeLength < tape.length) {
                tape[tapeLength] = (number >>> bits) & 255;
                tapeLength++;
            }
        }
    }

    public boolean end(int n) {
        if (n < 0 || n > tapeLength) {
            return false;
        }
        tapeLength = n;
        return true;
    }

    /** Empties the tape; its bytes stay readable until the next feed. */
    private int takeTape() {
        int length = tapeLength;
        tapeLength = 0;
        return length;
    }

    private int tapeAt(int i) {
        return i < 0 || i >= tape.length ? 0 : tape[i];
    }

    public int table() {
        int length = takeTape();
        faultKind = teller.tell(tape, length);
        if (faultKind != 0) {
            return -1 - teller.faultPlace;
        }
        now = teller.handOver(now);
        netIsOld = true;
        return now.names;
    }

    public int fault() {
        return faultKind;
    }

    public int count(int what) {
        switch (what) {
            case 0:
                return now.names;
            case 1:
                return now.dice();
            case 2:
                return tapeLength;
            default:
                return NONE;
        }
    }

    // ---- what one NAME is

    public int about(int k, int what) throws NoSuchElementException {
        if (!now.has(k) || what < 0 || what > 2) {
            throw new NoSuchElementException();
        }
        if (what == 0) {
            return now.facesOf(k);
        }
        Row row = now.row(k);
        return what == 1 ? row.least : row.greatest;
    }

    public long all(int k) {
        return now.has(k) ? now.row(k).total : NONE;
    }

    public long ways(int k, int number) {
        return now.has(k) ? now.row(k).at(number) : NONE;
    }

    public long mean(int k, int what) throws NoSuchElementException {
        if (!now.has(k) || what < 0 || what > 3) {
            throw new NoSuchElementException();
        }
        Row row = now.row(k);
        if (what > 1 && row.total > MOST_SPREAD_WAYS) {
            throw new NoSuchElementException();
        }
        return what < 2 ? row.meanPart(what == 0) : row.spreadPart(what == 2);
    }

    // ---- who BEATS whom

    /** Lays out both NAMES thrown k times; false, if they or so many throws are not to be had. */
    private boolean throwBoth(int a, int b, int k) {
        if (!now.has(a) || !now.has(b) || k < 1 || k > MOST_THROWS) {
            return false;
        }
        return throwOne(now.row(a), k, firstThrown) && throwOne(now.row(b), k, secondThrown);
    }

    private boolean throwOne(Row row, int k, Row into) {
        into.copy(row);
        for (int i = 1; i < k; i++) {
            if (!thrownSpare.takeSum(into, row, false)) {
                return false;
            }
            into.copy(thrownSpare);
        }
        return true;
    }

    public long against(int a, int b, int k, int what) {
        if (what < 0 || what > 2 || !throwBoth(a, b, k)) {
            return NONE;
        }
        if (what == 0) {
            return firstThrown.above(secondThrown);
        }
        return what == 1 ? secondThrown.above(firstThrown) : firstThrown.even(secondThrown);
    }

    public int beats(int a, int b, int k) {
        if (!throwBoth(a, b, k)) {
            return NOT_TOLD;
        }
        return Long.compare(firstThrown.lead(secondThrown), 0);
    }

    /** The net of this TABLE: it takes many comparisons, so it is made when it is first asked for. */
    private Net freshNet() {
        if (netIsOld) {
            net.read(now);
            netIsOld = false;
        }
        return net;
    }

    public int beaten(int a) {
        return now.has(a) ? freshNet().beatenBy(a) : NONE;
    }

    public int ring() {
        return freshNet().seekRing();
    }

    public int ringAt(int k) {
        return net.ringMember(k);
    }

    public int threes() {
        return freshNet().countThrees();
    }

    public int top() {
        return freshNet().leastTop();
    }

    public int anyTwo() {
        return freshNet().firstTwoUnbeaten();
    }

    public int picks(int set) {
        if (set <= 0 || (set >> now.names) != 0 || Integer.bitCount(set) > MOST_PICKED) {
            return NOT_TOLD;
        }
        return game.play(freshNet(), set);
    }

    public int pickAt(int k) {
        return game.shareOf(k);
    }

    // ---- OTHER FACES

    public int others(int a, int b, int p, int q, int least) {
        if (!isSmallDie(a) || !isSmallDie(b) || least < 0 || least > MOST_FACE) {
            return NONE;
        }
        int faces = now.facesOf(a) * now.facesOf(b);
        // q is looked at first, so that p times q cannot wrap around
        if (p < 1 || p > q || q > faces || p * q != faces) {
            return NONE;
        }
        return faceSearch.seek(now.row(a), now.row(b), p, q, least);
    }

    private boolean isSmallDie(int k) {
        return now.has(k) && now.facesOf(k) > 0 && now.facesOf(k) <= MOST_OTHER_FACES;
    }

    public int otherAt(int k, int which, int i) throws NoSuchElementException {
        if (!faceSearch.pairs.holds(k, which, i)) {
            throw new NoSuchElementException();
        }
        return faceSearch.pairs.faceAt(k, which, i);
    }

    // ---- WORDS of dice

    public int fair() {
        int length = takeTape();
        int dice = diceOfWord(length);
        if (dice == NONE) {
            return NONE;
        }
        wordCount.start(dice);
        for (int i = 0; i < length; i++) {
            wordCount.take(tapeAt(i) - 'a');
        }
        return wordCount.fairness();
    }

    /** How many dice the WORD on the tape has; NONE, if it is no WORD. */
    private int diceOfWord(int length) {
        if (length > MOST_DICE_IN_WORD * MOST_FACES_IN_WORD) {
            return NONE;
        }
        int greatest = 0;
        for (int i = 0; i < length; i++) {
            greatest = Math.max(greatest, tapeAt(i));
        }
        int dice = greatest - 'a' + 1;
        if (dice < 2 || dice > MOST_DICE_IN_WORD) {
            return NONE;
        }
        int faces = timesOnTape('a', length);
        for (int d = 1; d < dice; d++) {
            if (timesOnTape('a' + d, length) != faces) {
                return NONE;
            }
        }
        return faces >= 1 && faces <= MOST_FACES_IN_WORD && faces * dice == length ? dice : NONE;
    }

    private int timesOnTape(int sign, int length) {
        int times = 0;
        for (int i = 0; i < length; i++) {
            if (tapeAt(i) == sign) {
                times++;
            }
        }
        return times;
    }

    public int order(int digits) {
        return wordCount.rowsInOrder(digits);
    }

    public int placed(int d, int place) {
        return wordCount.timesPlaced(d, place);
    }

    public int firstWord(int n, int f, int bits) {
        if (n < 2 || n > MOST_DICE_IN_WORD || f < 1 || f > MOST_FACES_IN_WORD || bits < 0 || bits > 7) {
            return NONE;
        }
        if (n * f > MOST_SOUGHT_LETTERS) {
            return NONE;
        }
        return wordSearch.seekFair(n, f, bits) ? 1 : 0;
    }

    public int laid(int n) {
        int length = takeTape();
        if (n < 2 || n > MOST_DICE_IN_WORD || (length & 1) != 0 || length > 2 * MOST_PAIRS_TOLD) {
            return NOT_TOLD;
        }
        int wanted = 0;
        for (int i = 0; i + 1 < length; i += 2) {
            int winner = tapeAt(i);
            int loser = tapeAt(i + 1);
            if (winner >= n || loser >= n || winner == loser) {
                return NOT_TOLD;
            }
            wanted |= 1 << (winner * MOST_DICE_IN_WORD + loser);
        }
        return wordSearch.seekLaid(n, wanted);
    }

    public int letter(int i) {
        return wordSearch.letterAt(i);
    }

    // ---- what was thrown, and what throws go through

    public int rolled() {
        int length = takeTape();
        if (length < 1 || length > MOST_ROLLS) {
            return NONE;
        }
        for (int i = 0; i < length; i++) {
            if (tapeAt(i) > MOST_FACE) {
                return NONE;
            }
        }
        int best = NONE;
        long most = 0;
        for (int k = 0; k < parts.length; k++) {
            parts[k] = partsOf(k, length);
            if (parts[k] > most) {
                most = parts[k];
                best = k;
            }
        }
        return best;
    }

    private long partsOf(int k, int length) {
        int faces = now.has(k) ? now.facesOf(k) : 0;
        if (faces == 0) {
            return 0;
        }
        Row row = now.row(k);
        long left = WHOLE_PARTS;
        for (int i = 0; i < length; i++) {
            left = left * row.at(tapeAt(i)) / faces;
        }
        return left;
    }

    public long rolledBy(int k) {
        return k < 0 || k >= parts.length ? 0 : parts[k];
    }

    public long meets(int k, int t) {
        if (!now.has(k) || t < 0 || t > MOST_MET) {
            return NONE;
        }
        Row row = now.row(k);
        if (row.least < 1 || row.total > MOST_MEETING_WAYS || row.total < 1) {
            return NONE;
        }
        met[0] = WHOLE_PARTS;
        for (int sum = 1; sum <= t; sum++) {
            long part = 0;
            for (int v = row.least; v <= row.greatest && v <= sum; v++) {
                part += met[sum - v] * row.at(v) / row.total;
            }
            met[sum] = part;
        }
        return met[t];
    }

    public long apart(int a, int b) {
        return now.has(a) && now.has(b) ? now.row(a).farFrom(now.row(b)) : NONE;
    }

    public int shift(int a, int b) throws NoSuchElementException {
        if (!now.has(a) || !now.has(b)) {
            throw new NoSuchElementException();
        }
        Row first = now.row(a);
        Row second = now.row(b);
        int by = second.least - first.least;
        return first.isMoved(second, by) ? by : NO_SHIFT;
    }

    /** The WAYS of each number; outside least to greatest they are 0. */
    private static final class Row {
        final int reach;
        final long[] ways;
        int least;
        int greatest;
        long total;

        /** A wide row has room for so many throws as may be added. */
        Row(boolean wide) {
            reach = wide ? MOST_NUMBER * MOST_THROWS : MOST_NUMBER;
            ways = new long[wide ? 2 * MOST_NUMBER * MOST_THROWS + 1 : 2 * MOST_NUMBER + 1];
        }

        long at(int number) {
            int i = number + reach;
            return i < 0 || i >= ways.length ? 0 : ways[i];
        }

        private void put(int number, long many) {
            int i = number + reach;
            if (i >= 0 && i < ways.length) {
                ways[i] = many;
            }
        }

        private void blank(int newLeast, int newGreatest, long newTotal) {
            for (int i = Math.max(0, least + reach); i <= greatest + reach && i < ways.length; i++) {
                ways[i] = 0;
            }
            least = newLeast;
            greatest = newGreatest;
            total = newTotal;
        }

        void takeNumber(int number) {
            blank(number, number, 1);
            put(number, 1);
        }

        void addFace(int number) {
            put(number, at(number) + 1);
            least = Math.min(least, number);
            greatest = Math.max(greatest, number);
            total++;
        }

        void copy(Row other) {
            blank(other.least, other.greatest, other.total);
            for (int n = least; n <= greatest; n++) {
                put(n, other.at(n));
            }
        }

        /** a and b thrown apart and added, or b taken away; false (and nothing is done), if that is TOO MUCH. */
        boolean takeSum(Row a, Row b, boolean minus) {
            int low = minus ? a.least - b.greatest : a.least + b.least;
            int high = minus ? a.greatest - b.least : a.greatest + b.greatest;
            if (low < -reach || high > reach || tooMany(a, b)) {
                return false;
            }
            blank(low, high, a.total * b.total);
            for (int i = a.least; i <= a.greatest; i++) {
                long many = a.at(i);
                if (many != 0) {
                    spread(many, i, b, minus);
                }
            }
            return true;
        }

        private void spread(long many, int from, Row b, boolean minus) {
            for (int j = b.least; j <= b.greatest; j++) {
                int n = minus ? from - j : from + j;
                put(n, at(n) + many * b.at(j));
            }
        }

        static boolean tooMany(Row a, Row b) {
            return a.total * b.total > MOST_WAYS;
        }

        /** The higher (or the lower) of two: towards that end each number goes with all passed of the other one. */
        void takeEnd(Row a, Row b, boolean higher) {
            int low = Math.min(a.least, b.least);
            int high = Math.max(a.greatest, b.greatest);
            blank(higher ? Math.max(a.least, b.least) : low, higher ? high : Math.min(a.greatest, b.greatest),
                    a.total * b.total);
            long passedA = 0;
            long passedB = 0;
            for (int i = 0; i <= high - low; i++) {
                int n = higher ? low + i : high - i;
                put(n, a.at(n) * (passedB + b.at(n)) + passedA * b.at(n));
                passedA += a.at(n);
                passedB += b.at(n);
            }
        }

        void takeMore(Row a, Row b) {
            long greater = a.above(b);
            long rest = a.total * b.total - greater;
            blank(rest > 0 ? 0 : 1, greater > 0 ? 1 : 0, a.total * b.total);
            put(0, rest);
            put(1, greater);
        }

        /** In how many WAYS this one is greater than the other one. */
        long above(Row other) {
            long sum = 0;
            long passed = 0;
            for (int n = Math.min(least, other.least); n <= greatest; n++) {
                sum += at(n) * passed;
                passed += other.at(n);
            }
            return sum;
        }

        /** GREATER less LESS. */
        long lead(Row other) {
            long sum = 0;
            long passed = 0;
            long passedOther = 0;
            for (int n = Math.min(least, other.least); n <= Math.max(greatest, other.greatest); n++) {
                sum += at(n) * passedOther - other.at(n) * passed;
                passed += at(n);
                passedOther += other.at(n);
            }
            return sum;
        }

        long even(Row other) {
            long sum = 0;
            for (int n = least; n <= greatest; n++) {
                sum += at(n) * other.at(n);
            }
            return sum;
        }

        private long sumOfNumbers() {
            long sum = 0;
            for (int n = least; n <= greatest; n++) {
                sum += n * at(n);
            }
            return sum;
        }

        long meanPart(boolean upper) {
            return leastPart(sumOfNumbers(), total, upper);
        }

        /** For rows of few WAYS alone: others would wrap around. */
        long spreadPart(boolean upper) {
            long sum = sumOfNumbers();
            long squares = 0;
            for (int n = least; n <= greatest; n++) {
                squares += (long) n * n * at(n);
            }
            return leastPart(squares * total - sum * sum, total * total, upper);
        }

        private static long leastPart(long up, long low, boolean upper) {
            long common = commonPart(Math.abs(up), low);
            if (common == 0) {
                return 0;
            }
            return upper ? up / common : low / common;
        }

        static long commonPart(long a, long b) {
            long great = a;
            long small = b;
            for (int i = 0; i < 1000 && small != 0; i++) {
                long rest = great % small;
                great = small;
                small = rest;
            }
            return great;
        }

        long farFrom(Row other) {
            long sum = 0;
            for (int n = Math.min(least, other.least); n <= Math.max(greatest, other.greatest); n++) {
                sum += Math.abs(at(n) * other.total - other.at(n) * total);
            }
            return sum;
        }

        boolean isMoved(Row other, int by) {
            if (greatest + by != other.greatest) {
                return false;
            }
            for (int n = least; n <= greatest; n++) {
                if (at(n) != other.at(n + by)) {
                    return false;
                }
            }
            return true;
        }
    }

    /** The NAMES as told, and what each throws. */
    private static final class Table {
        final Row[] rows = new Row[MOST_NAMES];
        final int[] faces = new int[MOST_NAMES];
        final int[] words = new int[MOST_NAMES];
        int names;

        Table() {
            for (int i = 0; i < rows.length; i++) {
                rows[i] = new Row(false);
            }
        }

        boolean has(int k) {
            return k >= 0 && k < names;
        }

        Row row(int k) {
            return rows[k < 0 || k >= rows.length ? 0 : k];
        }

        /** How many FACES it has; 0, if it is no die. */
        int facesOf(int k) {
            return k < 0 || k >= faces.length ? 0 : faces[k];
        }

        int dice() {
            int dice = 0;
            for (int k = 0; k < names; k++) {
                if (facesOf(k) > 0) {
                    dice++;
                }
            }
            return dice;
        }

        int find(int word) {
            for (int k = 0; k < names && k < words.length; k++) {
                if (words[k] == word) {
                    return k;
                }
            }
            return NONE;
        }

        /** Counts the NAME whose row has been laid behind the others. */
        void addName(int word, int faceCount) {
            if (names < words.length) {
                words[names] = word;
                faces[names] = faceCount;
                names++;
            }
        }
    }

    /** The TOKENS of a text, one after the other. */
    private static final class Reader {
        static final int END = 0;
        static final int NO_TOKEN = 1;
        static final int WORD = 2;
        static final int NUMBER = 3;
        static final int SIGN = 4;
        static final int MOST_LETTERS = 6;
        static final int MOST_DIGITS = 2;

        int[] text = new int[0];
        int length;
        int following;
        int kind;
        int value;
        int place;

        void start(int[] newText, int newLength) {
            text = newText;
            length = Math.min(newLength, newText.length);
            following = 0;
            advance();
        }

        boolean isTooLong() {
            return length > MOST_TEXT;
        }

        boolean isSign(char sign) {
            return kind == SIGN && value == sign;
        }

        boolean isWord(int word) {
            return kind == WORD && value == word;
        }

        private int byteAt(int i) {
            return i < 0 || i >= length || i >= text.length ? 0 : text[i];
        }

        void advance() {
            // no TOKEN begins behind the limit, but one that begins ahead of it may reach beyond
            int limit = Math.min(length, MOST_TEXT);
            int at = following;
            while (at < limit && (byteAt(at) == ' ' || byteAt(at) == '\n')) {
                at++;
            }
            if (at >= limit) {
                kind = END;
                place = limit;
                following = limit;
                return;
            }
            place = at;
            if (isLetter(byteAt(at)) || isDigit(byteAt(at))) {
                readRun();
            } else {
                value = byteAt(at);
                kind = isTokenSign(value) ? SIGN : NO_TOKEN;
                following = at + 1;
            }
        }

        private void readRun() {
            int letters = 0;
            int digits = 0;
            int word = 0;
            int number = 0;
            int at = place;
            while (at < length && (isLetter(byteAt(at)) || isDigit(byteAt(at)))) {
                if (isLetter(byteAt(at))) {
                    letters++;
                    word = word * 27 + byteAt(at) - 'a' + 1;
                } else {
                    digits++;
                    number = number * 10 + byteAt(at) - '0';
                }
                at++;
            }
            following = at;
            if (digits == 0 && letters <= MOST_LETTERS) {
                kind = WORD;
                value = word;
            } else if (letters == 0 && digits <= MOST_DIGITS) {
                kind = NUMBER;
                value = number;
            } else {
                kind = NO_TOKEN;
                value = 0;
            }
        }

        private static boolean isLetter(int sign) {
            return sign >= 'a' && sign <= 'z';
        }

        private static boolean isDigit(int sign) {
            return sign >= '0' && sign <= '9';
        }

        private static boolean isTokenSign(int sign) {
            switch (sign) {
                case ';':
                case '=':
                case '+':
                case '-':
                case '(':
                case ')':
                case ',':
                case '.':
                    return true;
                default:
                    return false;
            }
        }
    }

    /** The rows of a SUM as it is reckoned: the latest part lies on top of those that wait for it. */
    private static final class Bench {
        // of each open SUM the part so far, and the first SUM of a pair that it waits in
        static final int MOST_ROWS = 24;

        final Row[] rows = new Row[MOST_ROWS];
        Row spare = new Row(false);
        Row gathered = new Row(false);
        final Row zero = new Row(false);
        int height;
        boolean tooMuch;

        Bench() {
            for (int i = 0; i < rows.length; i++) {
                rows[i] = new Row(false);
            }
            zero.takeNumber(0);
        }

        void start() {
            height = 0;
            tooMuch = false;
        }

        private int slot(int below) {
            int i = height - 1 - below;
            return i < 0 || i >= rows.length ? 0 : i;
        }

        Row topRow() {
            return rows[slot(0)];
        }

        private boolean grow() {
            if (height >= rows.length) {
                tooMuch = true;
                return false;
            }
            height++;
            return !tooMuch;
        }

        void layNumber(int number) {
            if (grow()) {
                topRow().takeNumber(number);
            }
        }

        void layRow(Row row) {
            if (grow()) {
                topRow().copy(row);
            }
        }

        void negate() {
            if (!tooMuch && spare.takeSum(zero, topRow(), true)) {
                swapSpare(slot(0));
            }
        }

        private void swapSpare(int slot) {
            if (slot >= 0 && slot < rows.length) {
                Row old = rows[slot];
                rows[slot] = spare;
                spare = old;
            }
        }

        /** The two rows on top become one: their sum, or what is left. */
        void join(boolean minus) {
            if (!tooMuch) {
                if (spare.takeSum(rows[slot(1)], topRow(), minus)) {
                    swapSpare(slot(1));
                } else {
                    tooMuch = true;
                }
            }
            drop();
        }

        private void drop() {
            if (height > 0) {
                height--;
            }
        }

        void repeat(int times) {
            if (tooMuch) {
                return;
            }
            gathered.copy(topRow());
            for (int i = 1; i < times; i++) {
                if (!spare.takeSum(gathered, topRow(), false)) {
                    tooMuch = true;
                    return;
                }
                Row old = gathered;
                gathered = spare;
                spare = old;
            }
            topRow().copy(gathered);
        }

        /** The two rows on top become one: the higher, the lower, or whether there is more. */
        void compare(int word) {
            Row a = rows[slot(1)];
            Row b = topRow();
            if (Row.tooMany(a, b)) {
                tooMuch = true;
            }
            if (!tooMuch) {
                if (word == Teller.MORE) {
                    spare.takeMore(a, b);
                } else {
                    spare.takeEnd(a, b, word == Teller.HIGH);
                }
                swapSpare(slot(1));
            }
            drop();
        }
    }

    /** Reads a text into a TABLE, up to its first FAULT. */
    private static final class Teller {
        // WORDS are told apart by their letters as digits of 27
        static final int DIE = (4 * 27 + 9) * 27 + 5;
        static final int LET = (12 * 27 + 5) * 27 + 20;
        static final int OF = 15 * 27 + 6;
        static final int HIGH = ((8 * 27 + 9) * 27 + 7) * 27 + 8;
        static final int LOW = (12 * 27 + 15) * 27 + 23;
        static final int MORE = ((13 * 27 + 15) * 27 + 18) * 27 + 5;
        static final int NO_SENSE = 1;
        static final int BAD_NUMBER = 2;
        static final int BAD_NAME = 3;
        static final int TOO_MANY = 4;
        static final int TOO_MUCH = 5;
        static final int MOST_OPEN = 10;
        static final int MOST_TIMES = 6;

        final Reader reader = new Reader();
        final Bench bench = new Bench();
        Table told = new Table();
        boolean headIsDie;
        int headWord;
        int faultKind;
        int faultPlace;

        /** The kind of the first FAULT; 0, if there is none. */
        int tell(int[] text, int length) {
            told.names = 0;
            faultKind = 0;
            faultPlace = 0;
            reader.start(text, length);
            boolean good = true;
            for (int i = 0; i <= MOST_NAMES && good && reader.kind != Reader.END; i++) {
                good = readHead() && (headIsDie ? readFaces() : readLet());
            }
            if (good && reader.isTooLong()) {
                failHere(NO_SENSE);
            }
            return faultKind;
        }

        /** The TABLE that has been told; the old one is told anew next time. */
        Table handOver(Table old) {
            Table good = told;
            told = old;
            return good;
        }

        private boolean failHere(int kind) {
            return fail(kind, reader.place);
        }

        private boolean fail(int kind, int place) {
            faultKind = kind;
            faultPlace = place;
            return false;
        }

        /** A LINE's first WORD and its NAME. */
        private boolean readHead() {
            headIsDie = reader.isWord(DIE);
            if (!headIsDie && !reader.isWord(LET)) {
                return failHere(NO_SENSE);
            }
            if (told.names >= MOST_NAMES) {
                return failHere(TOO_MANY);
            }
            reader.advance();
            if (reader.kind != Reader.WORD || isOwnWord(reader.value)) {
                return failHere(NO_SENSE);
            }
            headWord = reader.value;
            if (told.find(headWord) != NONE) {
                return failHere(BAD_NAME);
            }
            reader.advance();
            return true;
        }

        private static boolean isOwnWord(int word) {
            return word == DIE || word == LET || word == OF || isPairWord(word);
        }

        private static boolean isPairWord(int word) {
            return word == HIGH || word == LOW || word == MORE;
        }

        private boolean readFaces() {
            Row row = told.row(told.names);
            int faces = 0;
            for (int i = 0; i <= MOST_FACES && reader.kind == Reader.NUMBER; i++) {
                if (reader.value > MOST_FACE) {
                    return failHere(BAD_NUMBER);
                }
                if (faces >= MOST_FACES) {
                    return failHere(TOO_MANY);
                }
                if (faces == 0) {
                    row.takeNumber(reader.value);
                } else {
                    row.addFace(reader.value);
                }
                faces++;
                reader.advance();
            }
            if (faces == 0 || !reader.isSign(';')) {
                return failHere(NO_SENSE);
            }
            told.addName(headWord, faces);
            reader.advance();
            return true;
        }

        private boolean readLet() {
            if (!readSign('=')) {
                return false;
            }
            bench.start();
            if (!readSum(0)) {
                return false;
            }
            if (!reader.isSign(';')) {
                return failHere(NO_SENSE);
            }
            if (bench.tooMuch) {
                return failHere(TOO_MUCH);
            }
            told.row(told.names).copy(bench.topRow());
            told.addName(headWord, 0);
            reader.advance();
            return true;
        }

        private boolean readSign(char sign) {
            if (!reader.isSign(sign)) {
                return failHere(NO_SENSE);
            }
            reader.advance();
            return true;
        }

        private boolean readSum(int open) {
            boolean minus = reader.isSign('-');
            if (minus) {
                reader.advance();
            }
            if (!readTerm(open)) {
                return false;
            }
            if (minus) {
                bench.negate();
            }
            for (int i = 0; i < MOST_TEXT && (reader.isSign('+') || reader.isSign('-')); i++) {
                minus = reader.isSign('-');
                reader.advance();
                if (!readTerm(open)) {
                    return false;
                }
                bench.join(minus);
            }
            return true;
        }

        private boolean readTerm(int open) {
            if (reader.kind != Reader.NUMBER) {
                return readUnit(open);
            }
            int number = reader.value;
            int place = reader.place;
            reader.advance();
            if (!reader.isWord(OF)) {
                return layNumber(number, place);
            }
            if (number < 1 || number > MOST_TIMES) {
                return fail(BAD_NUMBER, place);
            }
            reader.advance();
            if (!readUnit(open)) {
                return false;
            }
            bench.repeat(number);
            return true;
        }

        private boolean layNumber(int number, int place) {
            if (number > MOST_FACE) {
                return fail(BAD_NUMBER, place);
            }
            bench.layNumber(number);
            return true;
        }

        private boolean readUnit(int open) {
            if (reader.kind == Reader.NUMBER) {
                int number = reader.value;
                int place = reader.place;
                reader.advance();
                return layNumber(number, place);
            }
            if (reader.isSign('(')) {
                return readOpened(open) && readSum(open + 1) && readSign(')');
            }
            if (reader.kind != Reader.WORD) {
                return failHere(NO_SENSE);
            }
            return isPairWord(reader.value) ? readPair(open) : readName();
        }

        private boolean readOpened(int open) {
            if (!reader.isSign('(')) {
                return failHere(NO_SENSE);
            }
            if (open >= MOST_OPEN) {
                return failHere(TOO_MANY);
            }
            reader.advance();
            return true;
        }

        private boolean readPair(int open) {
            int word = reader.value;
            reader.advance();
            if (!readOpened(open) || !readSum(open + 1) || !readSign(',')) {
                return false;
            }
            if (!readSum(open + 1) || !readSign(')')) {
                return false;
            }
            bench.compare(word);
            return true;
        }

        private boolean readName() {
            if (isOwnWord(reader.value)) {
                return failHere(NO_SENSE);
            }
            int k = told.find(reader.value);
            if (k == NONE) {
                return failHere(BAD_NAME);
            }
            bench.layRow(told.row(k));
            reader.advance();
            return true;
        }
    }

    /** Which NAMES of the TABLE BEAT which, once thrown. */
    private static final class Net {
        final int[] beaten = new int[MOST_NAMES];
        final int[] steps = new int[MOST_NAMES];
        final int[] ringNames = new int[MOST_NAMES];
        int ringLength;
        int names;

        void read(Table table) {
            names = Math.min(table.names, MOST_NAMES);
            Arrays.fill(beaten, 0);
            for (int a = 0; a < names; a++) {
                for (int b = a + 1; b < names; b++) {
                    long lead = table.row(a).lead(table.row(b));
                    if (lead > 0) {
                        beaten[a] |= 1 << b;
                    } else if (lead < 0) {
                        beaten[b] |= 1 << a;
                    }
                }
            }
        }

        int beatenBy(int a) {
            return a < 0 || a >= names ? 0 : beaten[a];
        }

        boolean isAbove(int a, int b) {
            return (beatenBy(a) >> b & 1) == 1;
        }

        int seekRing() {
            int best = 0;
            int first = 0;
            for (int s = 0; s < names; s++) {
                int length = walkBack(s);
                if (length > 0 && (best == 0 || length < best)) {
                    best = length;
                    first = s;
                }
            }
            if (best == 0) {
                return NONE;
            }
            walkBack(first);
            layRing(first, best);
            return best;
        }

        /** Steps of each NAME above s to s, over such NAMES alone; answers how long the shortest way round is, or 0. */
        private int walkBack(int s) {
            Arrays.fill(steps, 0);
            int edge = 1 << s;
            for (int k = 1; k < names && edge != 0; k++) {
                int reached = 0;
                for (int v = s + 1; v < names; v++) {
                    if (steps[v] == 0 && (beaten[v] & edge) != 0) {
                        steps[v] = k;
                        reached |= 1 << v;
                    }
                }
                if ((beatenBy(s) & reached) != 0) {
                    return k + 1;
                }
                edge = reached;
            }
            return 0;
        }

        private void layRing(int first, int length) {
            int at = first;
            ringNames[0] = first;
            for (int i = 1; i < length && i < ringNames.length; i++) {
                at = firstAtSteps(at, length - i);
                ringNames[i] = at;
            }
            ringLength = length;
        }

        private int firstAtSteps(int from, int wanted) {
            for (int v = 0; v < names; v++) {
                if (isAbove(from, v) && steps[v] == wanted) {
                    return v;
                }
            }
            return 0;
        }

        int ringMember(int k) {
            return k < 0 || k >= ringLength || k >= ringNames.length ? NONE : ringNames[k];
        }

        int countThrees() {
            int threes = 0;
            for (int a = 0; a < names; a++) {
                for (int b = a + 1; b < names; b++) {
                    for (int c = b + 1; c < names; c++) {
                        if (isRound(a, b, c) || isRound(c, b, a)) {
                            threes++;
                        }
                    }
                }
            }
            return threes;
        }

        private boolean isRound(int a, int b, int c) {
            return isAbove(a, b) && isAbove(b, c) && isAbove(c, a);
        }

        int leastTop() {
            int best = 0;
            for (int s = 0; s < names; s++) {
                int set = closed(s);
                if (best == 0 || Integer.bitCount(set) < Integer.bitCount(best)) {
                    best = set;
                }
            }
            return best;
        }

        /** The least set with s in it, all of which BEAT all others: whom one of it does not beat must be in it too. */
        private int closed(int s) {
            int every = (1 << names) - 1;
            int set = 1 << s;
            for (int round = 0; round < names; round++) {
                for (int a = 0; a < names; a++) {
                    if ((set >> a & 1) == 1) {
                        set |= every & ~beaten[a];
                    }
                }
            }
            return set;
        }

        int firstTwoUnbeaten() {
            for (int a = 0; a < names; a++) {
                for (int b = a + 1; b < names; b++) {
                    if (!oneBeatsBoth(1 << a | 1 << b)) {
                        return 100 * a + b;
                    }
                }
            }
            return NONE;
        }

        private boolean oneBeatsBoth(int both) {
            for (int c = 0; c < names; c++) {
                if ((beaten[c] & both) == both) {
                    return true;
                }
            }
            return false;
        }
    }

    /** PICKS: the shares with which one picks best among NAMES that beat one another. */
    private static final class Game {
        final int[] members = new int[MOST_PICKED];
        final int[] signs = new int[MOST_PICKED * MOST_PICKED];
        final long[] trial = new long[MOST_PICKED];
        final int[] shares = new int[MOST_NAMES];
        int size;

        int play(Net net, int set) {
            gather(set);
            if (!readSigns(net)) {
                return NONE;
            }
            for (int holders = 1; holders < 1 << size; holders++) {
                // an even number of holders never balances where all beat or are beaten
                if ((Integer.bitCount(holders) & 1) == 1 && weigh(holders) && stands()) {
                    keep();
                    return Integer.bitCount(holders);
                }
            }
            return NONE;
        }

        private void gather(int set) {
            size = 0;
            for (int k = 0; k < MOST_NAMES && size < MOST_PICKED; k++) {
                if ((set >> k & 1) == 1) {
                    members[size] = k;
                    size++;
                }
            }
        }

        /** False, if two are EVEN. */
        private boolean readSigns(Net net) {
            Arrays.fill(signs, 0);
            for (int i = 0; i < size; i++) {
                for (int j = i + 1; j < size; j++) {
                    boolean wins = net.isAbove(members[i], members[j]);
                    if (!wins && !net.isAbove(members[j], members[i])) {
                        return false;
                    }
                    signs[i * MOST_PICKED + j] = wins ? 1 : -1;
                    signs[j * MOST_PICKED + i] = wins ? -1 : 1;
                }
            }
            return true;
        }

        /** The shares that balance among the holders; false, if they are not all above 0. */
        private boolean weigh(int holders) {
            int sign = 1;
            int turned = 0;
            for (int i = 0; i < MOST_PICKED; i++) {
                trial[i] = 0;
                if ((holders >> i & 1) == 1) {
                    trial[i] = sign * pfaffian(signs, holders ^ 1 << i, MOST_PICKED);
                    sign = -sign;
                    if (turned == 0) {
                        turned = trial[i] < 0 ? -1 : 1;
                    }
                    trial[i] *= turned;
                    if (trial[i] <= 0) {
                        return false;
                    }
                }
            }
            return true;
        }

        private static long pfaffian(int[] signs, int set, int depth) {
            if (set == 0 || depth <= 0) {
                return 1;
            }
            int first = 0;
            while (first < MOST_PICKED - 1 && (set >> first & 1) == 0) {
                first++;
            }
            int rest = set & (set - 1);
            long sum = 0;
            int sign = 1;
            for (int j = first + 1; j < MOST_PICKED; j++) {
                if ((rest >> j & 1) == 1) {
                    sum += sign * signs[first * MOST_PICKED + j] * pfaffian(signs, rest ^ 1 << j, depth - 1);
                    sign = -sign;
                }
            }
            return sum;
        }

        /** Against these shares no one of the set beats more than beat it. */
        private boolean stands() {
            for (int i = 0; i < size; i++) {
                long gain = 0;
                for (int j = 0; j < size; j++) {
                    gain += signs[i * MOST_PICKED + j] * trial[j];
                }
                if (gain > 0) {
                    return false;
                }
            }
            return true;
        }

        private void keep() {
            long common = 0;
            for (int i = 0; i < size; i++) {
                common = Row.commonPart(trial[i], common);
            }
            Arrays.fill(shares, 0);
            for (int i = 0; i < size && common != 0; i++) {
                shares[members[i]] = (int) (trial[i] / common);
            }
        }

        int shareOf(int k) {
            return k < 0 || k >= shares.length ? 0 : shares[k];
        }
    }

    /** The first pairs of OTHER FACES, in their order. */
    private static final class Pairs {
        static final int MOST_KEPT = 100;
        // p and q make at most 64 times one another, so 1 and 64 are the most together
        static final int MOST_BOTH = 65;

        final int[] faces = new int[MOST_KEPT * MOST_BOTH];
        final int[] starts = new int[MOST_KEPT];
        final int[] slots = new int[MOST_KEPT];
        int kept;
        int p;
        int q;

        void clear(int newP, int newQ) {
            kept = 0;
            p = newP;
            q = newQ;
        }

        /** A slot for a pair by x's least FACE, behind those of the same that have come; NONE, if it is too late. */
        int makeRoom(int start) {
            int at = kept;
            while (at > 0 && starts[at - 1] > start) {
                at--;
            }
            if (at >= MOST_KEPT) {
                return NONE;
            }
            int slot = kept < MOST_KEPT ? kept : slots[MOST_KEPT - 1];
            kept = Math.min(kept + 1, MOST_KEPT);
            for (int i = kept - 1; i > at; i--) {
                starts[i] = starts[i - 1];
                slots[i] = slots[i - 1];
            }
            starts[at] = start;
            slots[at] = slot;
            return slot;
        }

        void putFaces(int slot, int from, int[] times, int least) {
            int i = slot * MOST_BOTH + from;
            for (int d = 0; d < times.length; d++) {
                for (int t = 0; t < times[d] && i >= 0 && i < faces.length; t++) {
                    faces[i] = least + d;
                    i++;
                }
            }
        }

        boolean holds(int k, int which, int i) {
            if (k < 0 || k >= kept || i < 0) {
                return false;
            }
            return which == 0 && i < p || which == 1 && i < q;
        }

        int faceAt(int k, int which, int i) {
            int slot = k < 0 || k >= MOST_KEPT ? 0 : slots[k];
            int at = slot * MOST_BOTH + (which == 0 ? 0 : p) + i;
            return at < 0 || at >= faces.length ? 0 : faces[at];
        }
    }

    /**
     * OTHER FACES: x and y, both moved so that their least FACE is 0, are laid FACE by FACE from 0 on;
     * of each what is laid of both takes its part of the sums away, of which none may lack.
     */
    private static final class FaceSearch {
        static final int DEGREES = MOST_FACE + 1;
        static final int MOST_STEPS = 100000000;

        final Pairs pairs = new Pairs();
        final int[] left = new int[2 * DEGREES];
        final int[] x = new int[DEGREES];
        final int[] y = new int[DEGREES];
        final int[] tried = new int[DEGREES];
        int p;
        int q;
        int least;
        int leastSum;
        int deepest;
        int laidX;
        int laidY;
        int found;

        int seek(Row a, Row b, int newP, int newQ, int newLeast) {
            p = newP;
            q = newQ;
            least = newLeast;
            leastSum = a.least + b.least;
            deepest = MOST_FACE - least;
            found = 0;
            laidX = 0;
            laidY = 0;
            pairs.clear(p, q);
            Arrays.fill(x, 0);
            Arrays.fill(y, 0);
            addUp(a, b);
            walk();
            return found;
        }

        private void addUp(Row a, Row b) {
            Arrays.fill(left, 0);
            for (int i = a.least; i <= a.greatest; i++) {
                for (int j = b.least; j <= b.greatest; j++) {
                    int at = i + j - leastSum;
                    if (at >= 0 && at < left.length) {
                        left[at] += (int) (a.at(i) * b.at(j));
                    }
                }
            }
        }

        /** Tries at each number the most of x first, so that pairs come in the order of x's FACES. */
        private void walk() {
            int d = 0;
            tried[0] = p + 1;
            for (int step = 0; step < MOST_STEPS && d >= 0 && d < DEGREES; step++) {
                if (!chooseNext(d)) {
                    d--;
                    take(d, 1);
                } else if (!take(d, -1)) {
                    take(d, 1);
                } else if (laidX == p && laidY == q) {
                    // as none lacks and all are as many, nothing is left
                    addFound();
                    take(d, 1);
                } else if (d < deepest) {
                    d++;
                    tried[d] = Math.min(p - laidX, y[0] > 0 ? left[d] / y[0] : 0) + 1;
                } else {
                    take(d, 1);
                }
            }
        }

        /** The next lesser x[d] that can be, and the y[d] that goes with it. */
        private boolean chooseNext(int d) {
            for (int many = tried[d] - 1; many >= (d == 0 ? 1 : 0); many--) {
                int other = partner(d, many);
                if (other >= 0 && other <= q - laidY) {
                    tried[d] = many;
                    x[d] = many;
                    y[d] = other;
                    return true;
                }
            }
            x[d] = 0;
            y[d] = 0;
            return false;
        }

        private int partner(int d, int many) {
            int rest = d == 0 ? left[0] : left[d] - many * y[0];
            int divisor = d == 0 ? many : x[0];
            return divisor <= 0 || rest < 0 || rest % divisor != 0 ? NONE : rest / divisor;
        }

        /** Takes what x[d] and y[d] make with all laid ahead from what is left (sign -1), or gives it back (1). */
        private boolean take(int d, int sign) {
            if (d < 0 || d >= DEGREES) {
                return false;
            }
            laidX -= sign * x[d];
            laidY -= sign * y[d];
            boolean enough = true;
            if (x[d] != 0 || y[d] != 0) {
                for (int j = 0; j < d; j++) {
                    left[d + j] += sign * (x[d] * y[j] + y[d] * x[j]);
                    enough &= left[d + j] >= 0;
                }
                left[2 * d] += sign * x[d] * y[d];
                enough &= left[2 * d] >= 0;
            }
            return enough;
        }

        private void addFound() {
            int topX = greatestOf(x);
            int topY = greatestOf(y);
            boolean xAhead = isAhead();
            for (int start = least; start <= MOST_FACE - topX; start++) {
                int other = leastSum - start;
                boolean inTurn = p != q || start < other || start == other && xAhead;
                if (other >= least && other + topY <= MOST_FACE && inTurn) {
                    found++;
                    keep(start, other);
                }
            }
        }

        private void keep(int start, int other) {
            int slot = pairs.makeRoom(start);
            if (slot != NONE) {
                pairs.putFaces(slot, 0, x, start);
                pairs.putFaces(slot, p, y, other);
            }
        }

        private static int greatestOf(int[] times) {
            int greatest = 0;
            for (int d = 0; d < times.length; d++) {
                if (times[d] > 0) {
                    greatest = d;
                }
            }
            return greatest;
        }

        /** x is not behind y, if both begin at the same FACE: more of a lesser FACE come ahead. */
        private boolean isAhead() {
            for (int d = 0; d < DEGREES; d++) {
                if (x[d] != y[d]) {
                    return x[d] > y[d];
                }
            }
            return true;
        }
    }

    /** In how many rows of one FACE each the dice of a WORD come in which ORDER. */
    private static final class WordCount {
        // an ORDER of dice is written with two bits a die, the least one's highest
        final int[] ones = new int[4];
        final int[] twos = new int[16];
        final int[] threes = new int[64];
        final int[] fours = new int[256];
        final int[] places = new int[MOST_DICE_IN_WORD * MOST_DICE_IN_WORD];
        int dice;

        void start(int newDice) {
            dice = Math.min(newDice, MOST_DICE_IN_WORD);
            Arrays.fill(ones, 0);
            Arrays.fill(twos, 0);
            Arrays.fill(threes, 0);
            Arrays.fill(fours, 0);
        }

        /** A FACE of die c, greater than all those ahead, ends all rows in which c is not yet. */
        void take(int c) {
            if (c < 0 || c >= dice) {
                return;
            }
            for (int code = 0; code < fours.length && dice >= 4; code++) {
                if ((code & 3) == c && isOfUnlike(code, 4)) {
                    fours[code] += threes[code >> 2];
                }
            }
            for (int code = 0; code < threes.length && dice >= 3; code++) {
                if ((code & 3) == c && isOfUnlike(code, 3)) {
                    threes[code] += twos[code >> 2];
                }
            }
            for (int code = 0; code < twos.length; code++) {
                if ((code & 3) == c && isOfUnlike(code, 2)) {
                    twos[code] += ones[code >> 2];
                }
            }
            ones[c]++;
        }

        private static boolean isOfUnlike(int code, int length) {
            int seen = 0;
            for (int i = 0; i < length; i++) {
                seen |= 1 << (code >> 2 * i & 3);
            }
            return Integer.bitCount(seen) == length;
        }

        /** Whether all dice are in it: as there are no more places than dice, none is in it twice. */
        private boolean isOrder(int code) {
            int seen = 0;
            for (int i = 0; i < dice; i++) {
                seen |= 1 << (code >> 2 * i & 3);
            }
            return code >= 0 && code < 1 << 2 * dice && seen == (1 << dice) - 1;
        }

        private int rowsOf(int code) {
            if (code < 0 || code >= 1 << 2 * dice) {
                return 0;
            }
            switch (dice) {
                case 2:
                    return twos[code & 15];
                case 3:
                    return threes[code & 63];
                case 4:
                    return fours[code & 255];
                default:
                    return 0;
            }
        }

        int rowsInOrder(int digits) {
            if (dice == 0 || digits < 0) {
                return NONE;
            }
            int code = 0;
            int rest = digits;
            for (int i = 0; i < dice; i++) {
                int digit = rest % 10;
                rest /= 10;
                if (digit < 1 || digit > dice) {
                    return NONE;
                }
                code |= digit - 1 << 2 * i;
            }
            return rest == 0 && isOrder(code) ? rowsOf(code) : NONE;
        }

        int timesPlaced(int d, int place) {
            if (d < 0 || d >= dice || place < 0 || place >= dice) {
                return NONE;
            }
            return places[d * MOST_DICE_IN_WORD + place];
        }

        private void countPlaces() {
            Arrays.fill(places, 0);
            for (int code = 0; code < 1 << 2 * dice; code++) {
                if (isOrder(code)) {
                    for (int place = 0; place < dice; place++) {
                        int d = code >> 2 * (dice - 1 - place) & 3;
                        places[d * MOST_DICE_IN_WORD + place] += rowsOf(code);
                    }
                }
            }
        }

        /** FAIR of the letters taken; from then on places are told too. */
        int fairness() {
            countPlaces();
            int bits = 7;
            for (int d = 0; d < dice; d++) {
                if (timesPlaced(d, dice - 1) != timesPlaced(0, dice - 1)) {
                    bits &= ~1;
                }
                for (int place = 0; place < dice; place++) {
                    if (timesPlaced(d, place) != timesPlaced(d, 0)) {
                        bits &= ~2;
                    }
                }
            }
            return ordersAreEven() ? bits : bits & ~4;
        }

        private boolean ordersAreEven() {
            int first = NONE;
            for (int code = 0; code < 1 << 2 * dice; code++) {
                if (isOrder(code)) {
                    first = first == NONE ? rowsOf(code) : first;
                    if (rowsOf(code) != first) {
                        return false;
                    }
                }
            }
            return true;
        }
    }

    /** The first WORD that is fair as told, or in which told dice beat told ones. */
    private static final class WordSearch {
        final int[] word = new int[MOST_SOUGHT_LETTERS];
        final int[] trial = new int[MOST_SOUGHT_LETTERS];
        final int[] used = new int[MOST_DICE_IN_WORD];
        final int[] wins = new int[MOST_DICE_IN_WORD * MOST_DICE_IN_WORD];
        final int[] greatest = new int[MOST_DICE_IN_WORD];
        final WordCount counted = new WordCount();
        int wordLength;
        int dice;
        int faces;
        int fairBits;
        int wanted;

        boolean seekFair(int n, int f, int bits) {
            fairBits = bits;
            return couldBeFair(n, f) && seek(n, f, 0);
        }

        /** Shares that are alike must come out whole. */
        private boolean couldBeFair(int n, int f) {
            int rows = 1;
            int orders = 1;
            for (int i = 1; i <= n; i++) {
                rows *= f;
                orders *= i;
            }
            boolean places = n > 0 && rows % n == 0;
            boolean all = orders > 0 && rows % orders == 0;
            return (fairBits == 0 || places) && ((fairBits & 4) == 0 || all);
        }

        int seekLaid(int n, int newWanted) {
            fairBits = 0;
            if (isCrossed(newWanted)) {
                return NONE;
            }
            int most = n == 2 ? 6 : n == 3 ? 4 : 3;
            for (int f = 1; f <= most; f++) {
                if (seek(n, f, newWanted)) {
                    return f;
                }
            }
            return NONE;
        }

        /** Two dice cannot both beat one another. */
        private static boolean isCrossed(int pairs) {
            for (int a = 0; a < MOST_DICE_IN_WORD; a++) {
                for (int b = 0; b < a; b++) {
                    if (isTold(pairs, a, b) && isTold(pairs, b, a)) {
                        return true;
                    }
                }
            }
            return false;
        }

        private static boolean isTold(int pairs, int winner, int loser) {
            return (pairs >> winner * MOST_DICE_IN_WORD + loser & 1) == 1;
        }

        private boolean seek(int n, int f, int newWanted) {
            dice = Math.min(n, MOST_DICE_IN_WORD);
            faces = f;
            wanted = newWanted;
            Arrays.fill(used, 0);
            Arrays.fill(wins, 0);
            Arrays.fill(greatest, 0);
            if (!extend(this, 0)) {
                return false;
            }
            wordLength = Math.min(dice * faces, word.length);
            System.arraycopy(trial, 0, word, 0, wordLength);
            return true;
        }

        private static boolean extend(WordSearch search, int depth) {
            if (depth >= search.dice * search.faces) {
                return search.isFairAsTold();
            }
            if (depth < 0 || depth >= search.trial.length) {
                return false;
            }
            for (int c = 0; c < search.dice; c++) {
                if (search.used[c] < search.faces) {
                    search.trial[depth] = c;
                    search.add(c, 1);
                    if (search.canStillBe() && extend(search, depth + 1)) {
                        return true;
                    }
                    search.add(c, -1);
                }
            }
            return false;
        }

        /** One more FACE of die c above all those laid (sign 1), or away with it (-1). */
        private void add(int c, int sign) {
            if (sign < 0) {
                used[c]--;
            }
            int rows = 1;
            for (int e = 0; e < dice; e++) {
                if (e != c) {
                    wins[c * MOST_DICE_IN_WORD + e] += sign * used[e];
                    rows *= used[e];
                }
            }
            greatest[c] += sign * rows;
            if (sign > 0) {
                used[c]++;
            }
        }

        private boolean canStillBe() {
            if (fairBits != 0) {
                return isGreatestSeldomEnough();
            }
            for (int a = 0; a < dice; a++) {
                for (int b = 0; b < dice; b++) {
                    if (isTold(wanted, a, b) && !canBeat(a, b)) {
                        return false;
                    }
                }
            }
            return true;
        }

        /** However it is fair, each die is as often the greatest. */
        private boolean isGreatestSeldomEnough() {
            int rows = 1;
            for (int i = 0; i < dice; i++) {
                rows *= faces;
            }
            for (int d = 0; d < dice; d++) {
                if (greatest[d] * dice > rows) {
                    return false;
                }
            }
            return true;
        }

        /** FACES of a that are not yet laid beat all FACES of b at best. */
        private boolean canBeat(int a, int b) {
            int most = wins[a * MOST_DICE_IN_WORD + b] + (faces - used[a]) * faces;
            return 2 * most > faces * faces;
        }

        private boolean isFairAsTold() {
            if (fairBits == 0) {
                return true;
            }
            counted.start(dice);
            for (int i = 0; i < dice * faces && i < trial.length; i++) {
                counted.take(trial[i]);
            }
            return (counted.fairness() & fairBits) == fairBits;
        }

        int letterAt(int i) {
            return i < 0 || i >= wordLength || i >= word.length ? NONE : word[i];
        }
    }
}
