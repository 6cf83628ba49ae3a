import java.util.ArrayList;
import java.util.Arrays;
import java.util.HashMap;
import java.util.List;
import java.util.Map;

/** Sentence by sentence, what the document says of WORDS, FAIR, FIRST WORDS and LAID dice: promises 22 to 27. */
public final class WordEdgesTest {
    private static final Due DUE = new Due("WordEdgesTest");

    public static void main(String[] args) {
        lettersAsManyAsDice();
        asOftenAsTheOthers();
        noWords();
        orders();
        noOrders();
        places();
        fairBits();
        firstWords();
        notAsTold();
        laidOfEveryNet();
        pairsOfTheTape();
        letters();
        DUE.end();
    }

    private static int fair(DiceRing x, String word) {
        Due.lay(x, word);
        return x.fair();
    }

    private static void word(String word, int dice) {
        DiceRing x = new DiceRing();
        DUE.is("fair() of " + word + " is a WORD", fair(x, word) != -1, dice > 0);
        DUE.is("placed(last) of " + word, x.placed(dice - 1, 0) != -1, dice > 0);
        DUE.is("placed(behind) of " + word, x.placed(dice, 0), -1);
    }

    private static void lettersAsManyAsDice() {
        DUE.sentence("A WORD of dice: letters, the first 2 to 4 of a to d (as many dice),");
        word("a", 0);
        word("ab", 2);
        word("ba", 2);
        word("abc", 3);
        word("cba", 3);
        word("bca", 3);
        word("abcd", 4);
        word("dcba", 4);
        word("abcde", 0);
        word("edcba", 0);
        word("b", 0);
        word("bc", 0);
        word("ac", 0);
        word("ca", 0);
        word("bcd", 0);
        word("acd", 0);
        word("abd", 0);
        word("acac", 0);
        word("bbcc", 0);
        word("AB", 0);
        word("aB", 0);
        word("12", 0);
        for (int value = 0; value < 256; value++) {
            char sign = (char) value;
            word("a" + sign, sign == 'b' ? 2 : 0);
            word(sign + "a", sign == 'b' ? 2 : 0);
            word("ab" + sign, sign == 'c' ? 3 : 0);
            word("a" + sign + "b", sign == 'c' ? 3 : 0);
            word("abc" + sign, sign == 'd' ? 4 : 0);
            word(sign + "abc", sign == 'd' ? 4 : 0);
            word("abcd" + sign, 0);
            // a sign in the place of one of the letters, where there are as many as there should be
            word("aab" + sign, sign == 'b' ? 2 : 0);
            word("abb" + sign, sign == 'a' ? 2 : 0);
            word("aabbc" + sign, sign == 'c' ? 3 : 0);
            word(sign + "abbcc", sign == 'a' ? 3 : 0);
        }
    }

    private static void asOftenAsTheOthers() {
        DUE.sentence("each as often as the others (1 to 6 times):");
        String[] letters = {"ab", "abc", "abcd"};
        for (int n = 2; n <= 4; n++) {
            for (int times = 0; times <= 8; times++) {
                String text = letters[n - 2].repeat(times);
                word(text, times >= 1 && times <= 6 ? n : 0);
                StringBuilder sorted = new StringBuilder();
                for (int d = 0; d < n; d++) {
                    sorted.append(letters[n - 2].substring(d, d + 1).repeat(times));
                }
                word(sorted.toString(), times >= 1 && times <= 6 ? n : 0);
                for (int d = 0; d < n && times > 0; d++) {
                    word(text + letters[n - 2].charAt(d), 0);
                    word(text.substring(0, text.length() - 1), times == 1 && n > 2 ? n - 1 : 0);
                }
            }
        }
        word("aab", 0);
        word("aabb", 2);
        word("aaabbb", 2);
        word("aaabb", 0);
        word("aabbb", 0);
        word("aabcc", 0);
        word("abbbcc", 0);
        word("aaabbc", 0);
        word("aabbccd", 0);
        word("aabbccdd", 4);
        word("abcdd", 0);
        word("aaaaaabbbbbb", 2);
        word("aaaaaaabbbbbbb", 0);
        word("a".repeat(12), 0);
        word("a".repeat(270) + "b".repeat(270), 0);
    }

    private static void noWords() {
        DUE.sentence("The tape is a WORD: FAIR as bits; NONE: it is none.");
        DiceRing x = new DiceRing();
        DUE.is("fair() of none", x.fair(), -1);
        DUE.is("fair() of ab", fair(x, "ab"), 0);
        DUE.is("order(12)", x.order(12), 1);
        for (String bad : new String[] {"", "a", "ab ", " ab", "a b", "ab\n", "abb", "ab\0", "AB", "aab\u00e2"}) {
            DUE.is("fair() of " + bad, fair(x, bad), -1);
            DUE.is("order(12) yet", x.order(12), 1);
            DUE.is("order(123) yet", x.order(123), -1);
        }
        DUE.is("fair() of cba", fair(x, "cba"), 0);
        DUE.is("order(12) then", x.order(12), -1);
        DUE.is("order(321) then", x.order(321), 1);
        DUE.is("order(123) then", x.order(123), 0);
        DUE.is("fair() of ba", fair(x, "ba"), 0);
        DUE.is("order(21) then", x.order(21), 1);
        DUE.is("order(321) then", x.order(321), -1);
    }

    /** In how many rows of one letter each the dice of a word come so, row by row. */
    private static int rows(String word, String order) {
        if (order.isEmpty()) {
            return 1;
        }
        int rows = 0;
        for (int i = 0; i < word.length(); i++) {
            if (word.charAt(i) == order.charAt(0)) {
                rows += rows(word.substring(i + 1), order.substring(1));
            }
        }
        return rows;
    }

    private static List<String> ordersOf(String letters) {
        List<String> orders = new ArrayList<>();
        if (letters.isEmpty()) {
            orders.add("");
        }
        for (int i = 0; i < letters.length(); i++) {
            for (String rest : ordersOf(letters.substring(0, i) + letters.substring(i + 1))) {
                orders.add(letters.charAt(i) + rest);
            }
        }
        return orders;
    }

    private static int digits(String order) {
        int digits = 0;
        for (char letter : order.toCharArray()) {
            digits = 10 * digits + letter - 'a' + 1;
        }
        return digits;
    }

    private static final String[] WORDS = {"ab", "ba", "abab", "baab", "aabbba", "bbbbbbaaaaaa", "cab", "abccba", "acbbaccba",
        "abcabcabcabcabcabc", "abccbabcaacbcabbac", "dcba", "badc", "abdccbaddcba", "abcdabcdabcdabcdabcdabcd",
        "dddddddddddd".substring(6) + "ccccccbbbbbbaaaaaa", "bcadbadcadcbdbcadbcaacbd"};

    private static void orders() {
        DUE.sentence("An ORDER of all dice: in how many rows of one FACE each they come so (from the least to the greatest).");
        for (String word : WORDS) {
            DiceRing x = new DiceRing();
            fair(x, word);
            String letters = "abcd".substring(0, ModelSearch.diceOf(word));
            int all = 0;
            for (String order : ordersOf(letters)) {
                int digits = digits(order);
                DUE.is("order(" + digits + ") of " + word, x.order(digits), rows(word, order));
                all += x.order(digits);
            }
            int rows = (int) Math.pow(word.length() / letters.length(), letters.length());
            DUE.is("all ORDERS of " + word, all, rows);
        }
        DUE.sentence("digits 1 to 4 for a to d, the least one's first;");
        DiceRing x = new DiceRing();
        fair(x, "bdac");
        DUE.is("order(2413)", x.order(2413), 1);
        DUE.is("order(3142)", x.order(3142), 0);
        fair(x, "aaaaaabbbbbbccccccdddddd");
        DUE.is("order(1234)", x.order(1234), 1296);
        DUE.is("order(4321)", x.order(4321), 0);
        fair(x, "ddddddccccccbbbbbbaaaaaa");
        DUE.is("order(4321)", x.order(4321), 1296);
    }

    private static void noOrders() {
        DUE.sentence("NONE: it is no ORDER of all these, or ahead of any.");
        for (String word : new String[] {"ab", "abc", "abcd"}) {
            DiceRing x = new DiceRing();
            fair(x, word);
            List<Integer> good = new ArrayList<>();
            for (String order : ordersOf(word)) {
                good.add(digits(order));
            }
            int asked = 0;
            for (int digits = 0; digits <= 4445; digits += digits < 450 ? 1 : 11) {
                if (asked == 500) {
                    x = new DiceRing();
                    fair(x, word);
                    asked = 0;
                }
                asked++;
                DUE.is("order(" + digits + ") of " + word + " is one", x.order(digits) != -1, good.contains(digits));
            }
            for (int digits : new int[] {-12, -21, -123, -321, -1234, 120, 1230, 12340, 102, 1023, 11, 22, 112, 1223, 12345, 51234,
                2, 1, 0, -1, 111234, 412341, 1234 + (1 << 30), Integer.MAX_VALUE, Integer.MIN_VALUE}) {
                DUE.is("order(" + digits + ") of " + word, x.order(digits), -1);
            }
        }
    }

    private static void places() {
        DUE.sentence("How often die d (0 for a) is in a place (0 the least) by that WORD;");
        for (String word : WORDS) {
            DiceRing x = new DiceRing();
            fair(x, word);
            int n = ModelSearch.diceOf(word);
            for (int d = 0; d < n; d++) {
                for (int place = 0; place < n; place++) {
                    int times = 0;
                    for (String order : ordersOf("abcd".substring(0, n))) {
                        times += order.charAt(place) == 'a' + d ? rows(word, order) : 0;
                    }
                    DUE.is("placed(" + d + ", " + place + ") of " + word, x.placed(d, place), times);
                }
            }
            DUE.sentence("NONE: no such ones, or ahead of any.");
            for (int bad : new int[] {-1, n, n + 1, 4, Integer.MIN_VALUE, Integer.MAX_VALUE}) {
                DUE.is("placed(" + bad + ", 0) of " + word, x.placed(bad, 0), -1);
                DUE.is("placed(0, " + bad + ") of " + word, x.placed(0, bad), -1);
                DUE.is("placed(" + (n - 1) + ", " + bad + ") of " + word, x.placed(n - 1, bad), -1);
            }
            DUE.is("placed(last, last) of " + word, x.placed(n - 1, n - 1) != -1, true);
        }
    }

    private static void fairBits() {
        DUE.sentence("FAIR: bit 0: each die is as often the greatest; bit 1: each die is as often in each place; bit 2: all ORDERS are as often.");
        String[] words = {"abba", "baab", "aabbbbaa", "abab", "ab", "ba", "abc", "cba", "abcd", "abccbabcaacbcabbac",
            "bababbcaccccacaabb", "cabbcaabcabcbcacab", "bcadbadcadcbdbcadbcaacbd", "abccba", "aaabbbbbbaaa", "abcabcabc"};
        int[] bits = {7, 7, 7, 0, 0, 0, 0, 0, 0, 7, 1, 3, 1, 0, 7, 0};
        for (int i = 0; i < words.length; i++) {
            DUE.is("fair() of " + words[i], fair(new DiceRing(), words[i]), bits[i]);
            DUE.is("bits of " + words[i], bitsOf(words[i]), bits[i]);
        }
        // one FACE that changes places is enough
        DUE.is("fair() of a turned end", fair(new DiceRing(), "abccbabcaacbcabbca"), bitsOf("abccbabcaacbcabbca"));
        DUE.is("bits of a turned end", bitsOf("abccbabcaacbcabbca"), 0);
        for (int f = 1; f <= 3; f++) {
            for (String word : ModelSearch.words(3, f)) {
                DUE.is("fair() of " + word, fair(new DiceRing(), word), bitsOf(word));
            }
        }
    }

    private static int bitsOf(String word) {
        int n = ModelSearch.diceOf(word);
        List<String> orders = ordersOf("abcd".substring(0, n));
        int first = rows(word, orders.get(0));
        boolean allAlike = true;
        int[] placed = new int[n * n];
        for (String order : orders) {
            int rows = rows(word, order);
            allAlike &= rows == first;
            for (int place = 0; place < n; place++) {
                placed[(order.charAt(place) - 'a') * n + place] += rows;
            }
        }
        boolean greatest = true;
        boolean everywhere = true;
        for (int d = 0; d < n; d++) {
            greatest &= placed[d * n + n - 1] == placed[n - 1];
            for (int place = 0; place < n; place++) {
                everywhere &= placed[d * n + place] == placed[d * n];
            }
        }
        return (greatest ? 1 : 0) + (everywhere ? 2 : 0) + (allAlike ? 4 : 0);
    }

    /** How often each die is the greatest, of a word as it is laid. */
    private static boolean couldBeFair(String word, int n) {
        int[] used = new int[n];
        int[] greatest = new int[n];
        for (char letter : word.toCharArray()) {
            int rows = 1;
            for (int d = 0; d < n; d++) {
                rows *= d == letter - 'a' ? 1 : used[d];
            }
            greatest[letter - 'a'] += rows;
            used[letter - 'a']++;
        }
        for (int d = 1; d < n; d++) {
            if (greatest[d] != greatest[0]) {
                return false;
            }
        }
        return true;
    }

    /** Of all n, f and bits, against all WORDS one by one. */
    private static void firstWords() {
        DUE.sentence("FIRST WORD of n dice with f FACES (n f is 12 at most) that has all bits of a told FAIR: the first by letters.");
        for (int n = 2; n <= 4; n++) {
            for (int f = 1; n * f <= 12; f++) {
                String[] want = new String[8];
                for (String word : ModelSearch.words(n, f)) {
                    int has = want[0] != null && !couldBeFair(word, n) ? 0 : bitsOf(word);
                    for (int bits = 0; bits < 8; bits++) {
                        if (want[bits] == null && (has & bits) == bits) {
                            want[bits] = word;
                        }
                    }
                }
                for (int bits = 0; bits < 8; bits++) {
                    DiceRing x = new DiceRing();
                    DUE.is("firstWord(" + n + ", " + f + ", " + bits + ")", x.firstWord(n, f, bits), want[bits] == null ? 0 : 1);
                    isWord(x, want[bits] == null ? "" : want[bits]);
                }
            }
        }
    }

    private static void isWord(DiceRing x, String word) {
        for (int i = 0; i < 13; i++) {
            DUE.is("letter(" + i + ") of " + word, x.letter(i), i < word.length() ? word.charAt(i) - 'a' : -1);
        }
        for (int i : new int[] {-1, 13, Integer.MIN_VALUE, Integer.MAX_VALUE}) {
            DUE.is("letter(" + i + ") of " + word, x.letter(i), -1);
        }
    }

    private static void notAsTold() {
        DUE.sentence("FIRST WORD of n dice (2 to 4) with f FACES (1 to 6) that has all bits of bits (0 to 7): 1 there is one, 0 none; NONE: not as told.");
        for (int n = -1; n <= 6; n++) {
            for (int f = -1; f <= 13; f++) {
                boolean told = n >= 2 && n <= 4 && f >= 1 && f <= 6 && n * f <= 12;
                DUE.is("firstWord(" + n + ", " + f + ", 0)", new DiceRing().firstWord(n, f, 0), told ? 1 : -1);
            }
        }
        DiceRing x = new DiceRing();
        for (int bits : new int[] {-1, 8, 9, 15, Integer.MIN_VALUE, Integer.MAX_VALUE}) {
            DUE.is("firstWord(2, 2, " + bits + ")", x.firstWord(2, 2, bits), -1);
        }
        DUE.is("firstWord(2, 2, 7)", new DiceRing().firstWord(2, 2, 7), 1);
        DUE.is("firstWord(2, 3, 7)", new DiceRing().firstWord(2, 3, 7), 0);
        int[] far = {Integer.MIN_VALUE, Integer.MAX_VALUE, 1 << 30, 1 << 31};
        for (int number : far) {
            DUE.is("firstWord(" + number + ", 2, 0)", x.firstWord(number, 2, 0), -1);
            DUE.is("firstWord(2, " + number + ", 0)", x.firstWord(2, number, 0), -1);
            DUE.is("firstWord(4, " + number + ", 0)", x.firstWord(4, number, 0), -1);
        }
        isWord(x, "");
    }

    /** Of each net of two told dice and of none: the first WORD of the fewest FACES, of all WORDS. */
    private static void laidOfEveryNet() {
        DUE.sentence("LAID: of n dice (2 to 4) so that told ones beat told ones (more than half of their FACES' pairs): the fewest FACES f");
        laid(3, 3, 0, 1, 1, 2, 2, 0);
        DUE.sentence("(1 to 6 of 2 dice, to 4 of 3, to 3 of 4); of these the first WORD.");
        for (int n = 2; n <= 4; n++) {
            List<Map<Integer, String>> firsts = new ArrayList<>();
            for (int f = 1; f <= (n == 2 ? 6 : n == 3 ? 4 : 3); f++) {
                Map<Integer, String> first = new HashMap<>();
                for (String word : ModelSearch.words(n, f)) {
                    first.putIfAbsent(beating(word, n, f), word);
                }
                firsts.add(first);
            }
            for (int wanted = 0; wanted < 1 << n * n; wanted++) {
                if (isNet(wanted, n)) {
                    laid(n, wanted, firsts);
                }
            }
        }
    }

    /** Of each two dice at most one is told to beat the other one. */
    private static boolean isNet(int wanted, int n) {
        for (int a = 0; a < n; a++) {
            for (int b = 0; b <= a; b++) {
                if ((wanted >> a * n + b & 1) == 1 && (a == b || (wanted >> b * n + a & 1) == 1)) {
                    return false;
                }
            }
        }
        return true;
    }

    private static int beating(String word, int n, int f) {
        int[] used = new int[n];
        int[] wins = new int[n * n];
        for (int i = 0; i < word.length(); i++) {
            int c = word.charAt(i) - 'a';
            for (int d = 0; d < n; d++) {
                wins[c * n + d] += d == c ? 0 : used[d];
            }
            used[c]++;
        }
        int beating = 0;
        for (int i = 0; i < n * n; i++) {
            beating |= 2 * wins[i] > f * f ? 1 << i : 0;
        }
        return beating;
    }

    private static void laid(int n, int wanted, List<Map<Integer, String>> firsts) {
        String want = "";
        for (Map<Integer, String> first : firsts) {
            for (Map.Entry<Integer, String> e : first.entrySet()) {
                boolean does = (e.getKey() & wanted) == wanted;
                boolean isFewer = want.isEmpty() || e.getValue().length() == want.length() && e.getValue().compareTo(want) < 0;
                want = does && isFewer ? e.getValue() : want;
            }
        }
        List<Integer> pairs = new ArrayList<>();
        for (int i = 0; i < n * n; i++) {
            if ((wanted >> i & 1) == 1) {
                pairs.add(i / n);
                pairs.add(i % n);
            }
        }
        DiceRing x = new DiceRing();
        lay(x, pairs);
        DUE.is("laid(" + n + ") of " + pairs, x.laid(n), want.isEmpty() ? -1 : want.length() / n);
        isWord(x, want);
    }

    private static void lay(DiceRing x, List<Integer> numbers) {
        int[] row = new int[numbers.size()];
        for (int i = 0; i < row.length; i++) {
            row[i] = numbers.get(i);
        }
        Due.layNumbers(x, row);
    }

    private static void laid(int n, int want, int... pairs) {
        DiceRing x = new DiceRing();
        Due.layNumbers(x, pairs);
        DUE.is("laid(" + n + ") of " + Arrays.toString(pairs), x.laid(n), want);
        DUE.is("letter(0) then", x.letter(0) != -1, want > 0);
        DUE.is("count(2) then", x.count(2), 0);
    }

    /** So many pairs of 0 that is to beat 1. */
    private static int[] pairs(int many) {
        int[] pairs = new int[2 * many];
        for (int i = 0; i < many; i++) {
            pairs[2 * i + 1] = 1;
        }
        return pairs;
    }

    private static void pairsOfTheTape() {
        DUE.sentence("the tape's pairs of bytes being dice (0 to n less 1), of which the first is to beat the second (0 to 12 pairs, of two unlike dice each): FACES; NONE: none do; -2: not as told.");
        for (int n = 2; n <= 4; n++) {
            laid(n, 1);
            laid(n, 1, 0, n - 1);
            laid(n, 1, n - 1, 0);
            laid(n, -2, 0, n);
            laid(n, -2, n, 0);
            laid(n, -2, n, n - 1);
            laid(n, -2, 0, 255);
            laid(n, -2, 255, 0);
            laid(n, -2, 0, 'a');
            laid(n, -2, 0, 1, n, 0);
            laid(n, -2, 0, 1, 0, n);
            laid(n, -2, 0, 0);
            laid(n, -2, n - 1, n - 1);
            laid(n, -2, 0, 1, 1, 1);
            laid(n, -2, 0);
            laid(n, -2, 0, 1, 0);
            laid(n, -1, 0, 1, 1, 0);
            laid(n, -1, n - 1, 0, 0, n - 1);
            laid(n, -1, n - 2, n - 1, n - 1, n - 2);
            for (int many = 0; many <= 14; many++) {
                laid(n, many <= 12 ? 1 : -2, pairs(many));
            }
            laid(n, -2, Arrays.copyOf(pairs(12), 25));
            laid(n, -2, new int[540]);
        }
        for (int n : new int[] {-1, 0, 1, 5, 6, Integer.MIN_VALUE, Integer.MAX_VALUE}) {
            laid(n, -2);
            laid(n, -2, 0, 1);
        }
        // twelve pairs, of which the last one is heard too
        int[] twelve = pairs(12);
        twelve[22] = 1;
        twelve[23] = 0;
        laid(2, -1, twelve);
        twelve[22] = 2;
        laid(3, 1, twelve);
        laid(2, -2, twelve);
        laid(3, 3, 0, 1, 1, 2, 2, 0);
        laid(4, 3, 0, 1, 1, 2, 2, 3, 3, 0);
    }

    private static void letters() {
        DUE.sentence("Letter i (from 0) of the word of the latest firstWord() that told 1, laid() that told FACES, as 0 to 3; NONE: there is none such, or ahead of any.");
        DiceRing x = new DiceRing();
        DUE.is("letter(0) ahead of any", x.letter(0), -1);
        DUE.is("firstWord(2, 1, 7)", x.firstWord(2, 1, 7), 0);
        DUE.is("letter(0) after 0", x.letter(0), -1);
        DUE.is("firstWord(2, 7, 0)", x.firstWord(2, 7, 0), -1);
        DUE.is("letter(0) after NONE", x.letter(0), -1);
        Due.layNumbers(x, 0, 1, 1, 0);
        DUE.is("laid(2) of crossed ones", x.laid(2), -1);
        DUE.is("letter(0) after NONE", x.letter(0), -1);
        Due.layNumbers(x, 0);
        DUE.is("laid(2) not as told", x.laid(2), -2);
        DUE.is("letter(0) after -2", x.letter(0), -1);
        DUE.is("firstWord(4, 3, 0)", x.firstWord(4, 3, 0), 1);
        isWord(x, "aaabbbcccddd");
        Due.layNumbers(x, 2, 1, 1, 0);
        DUE.is("laid(3)", x.laid(3), 1);
        isWord(x, "abc");
        DUE.is("firstWord(2, 3, 1)", x.firstWord(2, 3, 1), 0);
        Due.layNumbers(x, 0, 1, 1, 0);
        DUE.is("laid(2) of crossed ones", x.laid(2), -1);
        isWord(x, "abc");
        DUE.is("firstWord(2, 2, 1)", x.firstWord(2, 2, 1), 1);
        isWord(x, "abba");
    }
}
