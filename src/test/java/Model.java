import java.math.BigInteger;
import java.util.ArrayList;
import java.util.Collections;
import java.util.List;
import java.util.Map;
import java.util.TreeMap;

/** The document once more, as plainly and slowly as can be: what DiceRing answers is held against it. */
final class Model {
    /** What stands for a NoSuchElementException: no call answers it. */
    static final long THROWN = Long.MIN_VALUE;

    private List<Integer> tape = new ArrayList<>();
    private List<ModelText.Name> names = new ArrayList<>();
    private int fault;
    private List<Integer> ring = new ArrayList<>();
    private final Map<Integer, Integer> shares = new TreeMap<>();
    private final Map<Integer, Long> parts = new TreeMap<>();
    private List<int[][]> others = new ArrayList<>();
    private String word = "";
    private String sought = "";

    int dice() {
        int dice = 0;
        for (ModelText.Name name : names) {
            dice += name.faces.isEmpty() ? 0 : 1;
        }
        return dice;
    }

    List<ModelText.Name> names() {
        return names;
    }

    long ask(String call, int... n) {
        switch (call) {
            case "feed": return feed(n);
            case "end": return end(n[0]);
            case "table": return table();
            case "fault": return fault;
            case "about": return about(n[0], n[1]);
            case "all": return has(n[0]) ? total(row(n[0])).longValue() : -1;
            case "ways": return has(n[0]) ? row(n[0]).getOrDefault(n[1], BigInteger.ZERO).longValue() : -1;
            case "mean": return mean(n[0], n[1]);
            case "against": return against(n[0], n[1], n[2], n[3]);
            case "beats": return beats(n[0], n[1], n[2]);
            case "beaten": return has(n[0]) ? beaten(n[0]) : -1;
            case "ring": return seekRing();
            case "ringAt": return n[0] >= 0 && n[0] < ring.size() ? ring.get(n[0]) : -1;
            case "threes": return threes();
            case "top": return top();
            case "anyTwo": return anyTwo();
            case "picks": return picks(n[0]);
            case "pickAt": return shares.getOrDefault(n[0], 0);
            case "others": return others(n[0], n[1], n[2], n[3], n[4]);
            case "otherAt": return otherAt(n[0], n[1], n[2]);
            case "fair": return fair();
            case "order": return order(n[0]);
            case "placed": return placed(n[0], n[1]);
            case "firstWord": return firstWord(n[0], n[1], n[2]);
            case "laid": return laid(n[0]);
            case "letter": return n[0] >= 0 && n[0] < sought.length() ? sought.charAt(n[0]) - 'a' : -1;
            case "rolled": return rolled();
            case "rolledBy": return parts.getOrDefault(n[0], 0L);
            case "meets": return meets(n[0], n[1]);
            case "apart": return apart(n[0], n[1]);
            case "shift": return shift(n[0], n[1]);
            case "count": return n[0] == 0 ? names.size() : n[0] == 1 ? dice() : n[0] == 2 ? tape.size() : -1;
            default: throw new IllegalArgumentException(call);
        }
    }

    // ---- tape and TABLE

    private long feed(int[] numbers) {
        if (tape.size() + 20 > 540) {
            return -1;
        }
        for (int number : numbers) {
            for (int i = 3; i >= 0; i--) {
                tape.add(number >> 8 * i & 255);
            }
        }
        return tape.size();
    }

    private long end(int n) {
        if (n < 0 || n > tape.size()) {
            return 0;
        }
        tape = new ArrayList<>(tape.subList(0, n));
        return 1;
    }

    private List<Integer> takeTape() {
        List<Integer> taken = tape;
        tape = new ArrayList<>();
        return taken;
    }

    private long table() {
        ModelText text = new ModelText(takeTape());
        fault = text.kind;
        if (fault != 0) {
            return -1 - text.place;
        }
        names = text.names;
        return names.size();
    }

    // ---- one NAME

    private boolean has(int k) {
        return k >= 0 && k < names.size();
    }

    private TreeMap<Integer, BigInteger> row(int k) {
        return names.get(k).ways;
    }

    private static BigInteger total(Map<Integer, BigInteger> row) {
        BigInteger total = BigInteger.ZERO;
        for (BigInteger ways : row.values()) {
            total = total.add(ways);
        }
        return total;
    }

    private long about(int k, int what) {
        if (!has(k) || what < 0 || what > 2) {
            return THROWN;
        }
        return what == 0 ? names.get(k).faces.size() : what == 1 ? row(k).firstKey() : row(k).lastKey();
    }

    private long mean(int k, int what) {
        if (!has(k) || what < 0 || what > 3) {
            return THROWN;
        }
        BigInteger all = total(row(k));
        if (what > 1 && all.longValue() > 1000000) {
            return THROWN;
        }
        BigInteger numbers = BigInteger.ZERO;
        BigInteger squares = BigInteger.ZERO;
        for (Map.Entry<Integer, BigInteger> e : row(k).entrySet()) {
            BigInteger number = BigInteger.valueOf(e.getKey());
            numbers = numbers.add(number.multiply(e.getValue()));
            squares = squares.add(number.multiply(number).multiply(e.getValue()));
        }
        BigInteger up = what < 2 ? numbers : squares.multiply(all).subtract(numbers.multiply(numbers));
        BigInteger low = what < 2 ? all : all.multiply(all);
        BigInteger part = what % 2 == 0 ? up : low;
        return part.divide(up.gcd(low)).longValueExact();
    }

    // ---- who BEATS whom

    private TreeMap<Integer, BigInteger> thrown(int k, int times) {
        if (total(row(k)).pow(times).compareTo(BigInteger.valueOf(1000000000)) > 0) {
            return null;
        }
        TreeMap<Integer, BigInteger> sum = row(k);
        for (int i = 1; i < times; i++) {
            sum = ModelText.joined(sum, row(k), Integer::sum);
        }
        return sum;
    }

    /** GREATER, LESS, EVEN; null, if there are none such. */
    private BigInteger[] compared(int a, int b, int times) {
        if (!has(a) || !has(b) || times < 1 || times > 4 || thrown(a, times) == null || thrown(b, times) == null) {
            return null;
        }
        TreeMap<Integer, BigInteger> signs = ModelText.joined(thrown(a, times), thrown(b, times), Integer::compare);
        return new BigInteger[] {signs.getOrDefault(1, BigInteger.ZERO), signs.getOrDefault(-1, BigInteger.ZERO),
            signs.getOrDefault(0, BigInteger.ZERO)};
    }

    private long against(int a, int b, int times, int what) {
        BigInteger[] all = compared(a, b, times);
        return all == null || what < 0 || what > 2 ? -1 : all[what].longValueExact();
    }

    private long beats(int a, int b, int times) {
        BigInteger[] all = compared(a, b, times);
        return all == null ? -2 : all[0].compareTo(all[1]);
    }

    private boolean isAbove(int a, int b) {
        return beats(a, b, 1) == 1;
    }

    private long beaten(int a) {
        long bits = 0;
        for (int b = 0; b < names.size(); b++) {
            bits |= isAbove(a, b) ? 1 << b : 0;
        }
        return bits;
    }

    private long seekRing() {
        for (int length = 3; length <= names.size(); length++) {
            for (int first = 0; first < names.size(); first++) {
                List<Integer> way = new ArrayList<>(List.of(first));
                if (walk(way, length)) {
                    ring = way;
                    return length;
                }
            }
        }
        return -1;
    }

    private boolean walk(List<Integer> way, int length) {
        int last = way.get(way.size() - 1);
        if (way.size() == length) {
            return isAbove(last, way.get(0));
        }
        for (int v = way.get(0) + 1; v < names.size(); v++) {
            if (!way.contains(v) && isAbove(last, v)) {
                way.add(v);
                if (walk(way, length)) {
                    return true;
                }
                way.remove(way.size() - 1);
            }
        }
        return false;
    }

    private long threes() {
        long threes = 0;
        int n = names.size();
        for (int a = 0; a < n; a++) {
            for (int b = a + 1; b < n; b++) {
                for (int c = a + 1; c < n; c++) {
                    threes += c != b && isAbove(a, b) && isAbove(b, c) && isAbove(c, a) ? 1 : 0;
                }
            }
        }
        return threes;
    }

    private long top() {
        int best = 0;
        for (int set = 1; set < 1 << names.size(); set++) {
            if ((best == 0 || Integer.bitCount(set) < Integer.bitCount(best)) && isOver(set)) {
                best = set;
            }
        }
        return best;
    }

    private boolean isOver(int set) {
        for (int a = 0; a < names.size(); a++) {
            for (int b = 0; b < names.size(); b++) {
                if ((set >> a & 1) == 1 && (set >> b & 1) == 0 && !isAbove(a, b)) {
                    return false;
                }
            }
        }
        return true;
    }

    private long anyTwo() {
        for (int a = 0; a < names.size(); a++) {
            for (int b = a + 1; b < names.size(); b++) {
                boolean found = false;
                for (int c = 0; c < names.size(); c++) {
                    found |= isAbove(c, a) && isAbove(c, b);
                }
                if (!found) {
                    return 100 * a + b;
                }
            }
        }
        return -1;
    }

    private long picks(int set) {
        List<Integer> members = new ArrayList<>();
        for (int k = 0; k < 31; k++) {
            if ((set >> k & 1) == 1) {
                members.add(k);
            }
        }
        if (set <= 0 || members.size() > 7 || members.get(members.size() - 1) >= names.size()) {
            return -2;
        }
        for (int a : members) {
            for (int b : members) {
                if (a != b && beats(a, b, 1) == 0) {
                    return -1;
                }
            }
        }
        int[] signs = new int[49];
        for (int i = 0; i < members.size(); i++) {
            for (int j = 0; j < members.size(); j++) {
                signs[7 * i + j] = (int) beats(members.get(i), members.get(j), 1);
            }
        }
        int[] found = ModelSearch.shares(signs, members.size());
        shares.clear();
        int holders = 0;
        for (int i = 0; i < members.size(); i++) {
            shares.put(members.get(i), found[i]);
            holders += found[i] > 0 ? 1 : 0;
        }
        return holders;
    }

    // ---- OTHER FACES

    private long others(int a, int b, int p, int q, int least) {
        if (!has(a) || !has(b) || least < 0 || least > 60) {
            return -1;
        }
        List<Integer> first = names.get(a).faces;
        List<Integer> second = names.get(b).faces;
        if (first.isEmpty() || second.isEmpty() || first.size() > 8 || second.size() > 8) {
            return -1;
        }
        if (p < 1 || p > q || (long) p * q != first.size() * second.size()) {
            return -1;
        }
        others = ModelSearch.others(first, second, p, q, least);
        return others.size();
    }

    private long otherAt(int k, int which, int i) {
        if (k < 0 || k >= Math.min(100, others.size()) || which < 0 || which > 1 || i < 0) {
            return THROWN;
        }
        int[] faces = others.get(k)[which];
        return i < faces.length ? faces[i] : THROWN;
    }

    // ---- WORDS

    private long fair() {
        StringBuilder text = new StringBuilder();
        for (int sign : takeTape()) {
            text.append((char) sign);
        }
        if (ModelSearch.diceOf(text.toString()) == 0) {
            return -1;
        }
        word = text.toString();
        return ModelSearch.fairness(word);
    }

    private long order(int digits) {
        int dice = ModelSearch.diceOf(word);
        List<Character> signs = new ArrayList<>();
        StringBuilder letters = new StringBuilder();
        for (char digit : Integer.toString(digits).toCharArray()) {
            signs.add(digit);
            letters.append((char) (digit - '1' + 'a'));
        }
        Collections.sort(signs);
        if (dice == 0 || !signs.equals(List.of('1', '2', '3', '4').subList(0, dice))) {
            return -1;
        }
        return ModelSearch.orders(word).getOrDefault(letters.toString(), 0);
    }

    private long placed(int d, int place) {
        int dice = ModelSearch.diceOf(word);
        return d < 0 || d >= dice || place < 0 || place >= dice ? -1 : ModelSearch.placed(word, d, place);
    }

    private long firstWord(int n, int f, int bits) {
        if (n < 2 || n > 4 || f < 1 || f > 6 || n * f > 12 || bits < 0 || bits > 7) {
            return -1;
        }
        for (String candidate : ModelSearch.words(n, f)) {
            // a share of all rows that is not whole need not be looked for
            if (bits == 0 || Math.pow(f, n) % n == 0 && (ModelSearch.fairness(candidate) & bits) == bits) {
                sought = candidate;
                return 1;
            }
        }
        return 0;
    }

    private long laid(int n) {
        List<Integer> pairs = takeTape();
        if (n < 2 || n > 4 || pairs.size() % 2 == 1 || pairs.size() > 24) {
            return -2;
        }
        for (int i = 0; i < pairs.size(); i++) {
            if (pairs.get(i) >= n || i % 2 == 1 && pairs.get(i).equals(pairs.get(i - 1))) {
                return -2;
            }
        }
        for (int f = 1; f <= (n == 2 ? 6 : n == 3 ? 4 : 3); f++) {
            for (String candidate : ModelSearch.words(n, f)) {
                if (ModelSearch.isLaid(candidate, pairs)) {
                    sought = candidate;
                    return f;
                }
            }
        }
        return -1;
    }

    // ---- throws

    private long rolled() {
        List<Integer> row = takeTape();
        if (row.isEmpty() || row.size() > 20 || Collections.max(row) > 60) {
            return -1;
        }
        parts.clear();
        long best = -1;
        for (int k = 0; k < names.size(); k++) {
            List<Integer> faces = names.get(k).faces;
            long left = faces.isEmpty() ? 0 : 1000000000000000L;
            for (int number : row) {
                left = faces.isEmpty() ? 0 : left * Collections.frequency(faces, number) / faces.size();
            }
            parts.put(k, left);
            if (left > 0 && (best < 0 || left > parts.get((int) best))) {
                best = k;
            }
        }
        return best;
    }

    private long meets(int k, int t) {
        if (!has(k) || t < 0 || t > 200 || row(k).firstKey() < 1 || total(row(k)).longValue() > 1000) {
            return -1;
        }
        BigInteger[] met = new BigInteger[t + 1];
        met[0] = BigInteger.valueOf(1000000000000000L);
        for (int sum = 1; sum <= t; sum++) {
            met[sum] = BigInteger.ZERO;
            for (Map.Entry<Integer, BigInteger> e : row(k).headMap(sum, true).entrySet()) {
                met[sum] = met[sum].add(met[sum - e.getKey()].multiply(e.getValue()).divide(total(row(k))));
            }
        }
        return met[t].longValueExact();
    }

    private long apart(int a, int b) {
        if (!has(a) || !has(b)) {
            return -1;
        }
        BigInteger sum = BigInteger.ZERO;
        for (int n = -200; n <= 200; n++) {
            BigInteger first = row(a).getOrDefault(n, BigInteger.ZERO).multiply(total(row(b)));
            BigInteger second = row(b).getOrDefault(n, BigInteger.ZERO).multiply(total(row(a)));
            sum = sum.add(first.subtract(second).abs());
        }
        return sum.longValueExact();
    }

    private long shift(int a, int b) {
        if (!has(a) || !has(b)) {
            return THROWN;
        }
        for (int by = -400; by <= 400; by++) {
            TreeMap<Integer, BigInteger> moved = new TreeMap<>();
            for (Map.Entry<Integer, BigInteger> e : row(a).entrySet()) {
                moved.put(e.getKey() + by, e.getValue());
            }
            if (moved.equals(row(b))) {
                return by;
            }
        }
        return 1000;
    }
}
