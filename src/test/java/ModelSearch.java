import java.util.ArrayList;
import java.util.HashMap;
import java.util.List;
import java.util.Map;
import java.util.TreeMap;

/** What the Model looks for by trying all there is. */
final class ModelSearch {
    private static final Map<String, List<String>> WORDS = new HashMap<>();
    private static final Map<String, Map<String, Integer>> ORDERS = new HashMap<>();

    private ModelSearch() {
    }

    // ---- PICKS: shares up to 9 are enough for seven NAMES that beat one another

    static int[] shares(int[] signs, int size) {
        for (int most = 1; most <= 9; most += 2) {
            int[] shares = new int[size];
            if (tryShares(signs, shares, 0, most)) {
                return shares;
            }
        }
        throw new IllegalStateException("no shares found");
    }

    private static boolean tryShares(int[] signs, int[] shares, int i, int most) {
        if (i == shares.length) {
            return stands(signs, shares);
        }
        for (int share = 0; share <= most; share = share == 0 ? 1 : share + 2) {
            shares[i] = share;
            if (tryShares(signs, shares, i + 1, most)) {
                return true;
            }
        }
        return false;
    }

    private static boolean stands(int[] signs, int[] shares) {
        int all = 0;
        for (int i = 0; i < shares.length; i++) {
            int gain = 0;
            for (int j = 0; j < shares.length; j++) {
                gain += signs[7 * i + j] * shares[j];
            }
            if (gain > 0) {
                return false;
            }
            all += shares[i];
        }
        return all > 0;
    }

    // ---- OTHER FACES: x FACE by FACE, rising; y is what the sums by x come out as

    static List<int[][]> others(List<Integer> a, List<Integer> b, int p, int q, int least) {
        int[] sums = new int[121];
        for (int i : a) {
            for (int j : b) {
                sums[i + j]++;
            }
        }
        List<int[][]> found = new ArrayList<>();
        extend(sums, new int[p], 0, q, least, found);
        return found;
    }

    private static void extend(int[] sums, int[] x, int laid, int q, int least, List<int[][]> found) {
        if (laid == x.length) {
            int[] y = rest(sums, x, q, least);
            if (y != null && (x.length != q || !isBehind(x, y))) {
                found.add(new int[][] {x.clone(), y});
            }
            return;
        }
        for (int face = laid == 0 ? least : x[laid - 1]; face <= 60; face++) {
            x[laid] = face;
            if (canBe(sums, x, laid + 1, q, least)) {
                extend(sums, x, laid + 1, q, least, found);
            }
        }
    }

    /** As further FACES of x are not below the last one, what sums there are below must be made by those laid. */
    private static boolean canBe(int[] sums, int[] x, int laid, int q, int least) {
        int lowest = lowest(sums);
        int[] left = sums.clone();
        int faces = 0;
        for (int sum = lowest; sum < lowest + x[laid - 1] - x[0]; sum++) {
            while (left[sum] > 0) {
                int y = sum - x[0];
                faces++;
                if (y < least || y > 60 || faces > q || !takeAll(left, x, laid, y)) {
                    return false;
                }
            }
        }
        return true;
    }

    private static int lowest(int[] sums) {
        int lowest = 0;
        while (sums[lowest] == 0) {
            lowest++;
        }
        return lowest;
    }

    private static boolean takeAll(int[] left, int[] x, int laid, int y) {
        for (int i = 0; i < laid; i++) {
            left[x[i] + y]--;
            if (left[x[i] + y] < 0) {
                return false;
            }
        }
        return true;
    }

    /** The q FACES of y, from the least sum on; null, if they do not come out. */
    private static int[] rest(int[] sums, int[] x, int q, int least) {
        int[] left = sums.clone();
        int[] y = new int[q];
        for (int i = 0; i < q; i++) {
            y[i] = lowest(left) - x[0];
            if (y[i] < least || y[i] > 60) {
                return null;
            }
            if (!takeAll(left, x, x.length, y[i])) {
                return null;
            }
        }
        return y;
    }

    private static boolean isBehind(int[] x, int[] y) {
        for (int i = 0; i < x.length; i++) {
            if (x[i] != y[i]) {
                return x[i] > y[i];
            }
        }
        return false;
    }

    // ---- WORDS

    /** How many dice a WORD has; 0, if it is none. */
    static int diceOf(String word) {
        for (int n = 2; n <= 4; n++) {
            int f = word.length() / n;
            int[] times = new int[n];
            boolean good = f >= 1 && f <= 6 && word.length() == n * f;
            for (int i = 0; i < word.length() && good; i++) {
                int d = word.charAt(i) - 'a';
                good = d >= 0 && d < n && ++times[d] <= f;
            }
            if (good) {
                return n;
            }
        }
        return 0;
    }

    static Map<String, Integer> orders(String word) {
        return ORDERS.computeIfAbsent(word, w -> {
            Map<String, Integer> orders = new TreeMap<>();
            countOrders(w, 0, "", orders);
            return orders;
        });
    }

    private static void countOrders(String word, int from, String order, Map<String, Integer> orders) {
        if (order.length() == diceOf(word)) {
            orders.merge(order, 1, Integer::sum);
            return;
        }
        for (int i = from; i < word.length(); i++) {
            if (order.indexOf(word.charAt(i)) < 0) {
                countOrders(word, i + 1, order + word.charAt(i), orders);
            }
        }
    }

    static int placed(String word, int d, int place) {
        int times = 0;
        for (Map.Entry<String, Integer> e : orders(word).entrySet()) {
            times += e.getKey().charAt(place) - 'a' == d ? e.getValue() : 0;
        }
        return times;
    }

    static int fairness(String word) {
        int n = diceOf(word);
        boolean greatest = true;
        boolean places = true;
        for (int d = 0; d < n; d++) {
            greatest &= placed(word, d, n - 1) == placed(word, 0, n - 1);
            for (int place = 0; place < n; place++) {
                places &= placed(word, d, place) == placed(word, d, 0);
            }
        }
        int all = n == 2 ? 2 : n == 3 ? 6 : 24;
        boolean even = orders(word).size() == all;
        for (int rows : orders(word).values()) {
            even &= rows == orders(word).values().iterator().next();
        }
        return (greatest ? 1 : 0) + (places ? 2 : 0) + (even ? 4 : 0);
    }

    /** All WORDS of n dice with f FACES, by letters. */
    static List<String> words(int n, int f) {
        return WORDS.computeIfAbsent(n + " " + f, key -> {
            List<String> words = new ArrayList<>();
            addWords(new StringBuilder(), new int[n], f, words);
            return words;
        });
    }

    private static void addWords(StringBuilder word, int[] used, int f, List<String> words) {
        if (word.length() == used.length * f) {
            words.add(word.toString());
            return;
        }
        for (int d = 0; d < used.length; d++) {
            if (used[d] < f) {
                used[d]++;
                addWords(word.append((char) ('a' + d)), used, f, words);
                word.setLength(word.length() - 1);
                used[d]--;
            }
        }
    }

    static boolean isLaid(String word, List<Integer> pairs) {
        for (int i = 0; i < pairs.size(); i += 2) {
            int wins = 0;
            int losses = 0;
            for (int j = 0; j < word.length(); j++) {
                for (int k = 0; k < j; k++) {
                    wins += word.charAt(j) - 'a' == pairs.get(i) && word.charAt(k) - 'a' == pairs.get(i + 1) ? 1 : 0;
                    losses += word.charAt(k) - 'a' == pairs.get(i) && word.charAt(j) - 'a' == pairs.get(i + 1) ? 1 : 0;
                }
            }
            if (wins <= losses) {
                return false;
            }
        }
        return true;
    }
}
