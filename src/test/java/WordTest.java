/** Promises 22 to 27: fair, order, placed, firstWord, laid, letter. */
public final class WordTest {
    private static final Due DUE = new Due("WordTest");

    public static void main(String[] args) {
        fairWords();
        ordersAndPlaces();
        noWords();
        firstWords();
        noFirstWords();
        laidWords();
        notLaid();
        theLatestWordStays();
        DUE.end();
    }

    private static int fair(DiceRing x, String word) {
        Due.lay(x, word);
        int bits = x.fair();
        DUE.is("count(2) after fair() of " + word, x.count(2), 0);
        return bits;
    }

    private static void fairWords() {
        DiceRing x = new DiceRing();
        DUE.is("fair() of abba", fair(x, "abba"), 7);
        DUE.is("fair() of baab", fair(x, "baab"), 7);
        DUE.is("fair() of abab", fair(x, "abab"), 0);
        DUE.is("fair() of ab", fair(x, "ab"), 0);
        DUE.is("fair() of abc", fair(x, "abc"), 0);
        DUE.is("fair() of abcd", fair(x, "abcd"), 0);
        // all ORDERS of three dice with six FACES each
        DUE.is("fair() of three with six FACES", fair(x, "abccbabcaacbcabbac"), 7);
        // as often the greatest, but not in each place
        DUE.is("fair() of three as often the greatest", fair(x, "bababbcaccccacaabb"), 1);
        DUE.is("fair() of four as often the greatest", fair(x, "bcadbadcadcbdbcadbcaacbd"), 1);
        // in each place as often, but not in each ORDER
        DUE.is("fair() of three in each place", fair(x, "cabbcaabcabcbcacab"), 3);
    }

    private static void ordersAndPlaces() {
        DiceRing x = new DiceRing();
        fair(x, "aabb");
        DUE.is("order(12)", x.order(12), 4);
        DUE.is("order(21)", x.order(21), 0);
        DUE.is("placed(0, 0)", x.placed(0, 0), 4);
        DUE.is("placed(0, 1)", x.placed(0, 1), 0);
        DUE.is("placed(1, 1)", x.placed(1, 1), 4);
        fair(x, "abccab");
        DUE.is("order(123)", x.order(123), 2);
        DUE.is("order(312)", x.order(312), 2);
        DUE.is("order(132)", x.order(132), 2);
        DUE.is("order(213)", x.order(213), 0);
        DUE.is("order(231)", x.order(231), 2);
        DUE.is("order(321)", x.order(321), 0);
        DUE.is("placed(0, 0)", x.placed(0, 0), 4);
        DUE.is("placed(2, 0)", x.placed(2, 0), 2);
        DUE.is("placed(1, 2)", x.placed(1, 2), 4);
        DUE.is("placed(0, 2)", x.placed(0, 2), 2);
        fair(x, "abcdabcdabcdabcdabcdabcd");
        DUE.is("order(1234)", x.order(1234), 126);
        DUE.is("order(4321)", x.order(4321), 15);
        int placed = 0;
        for (int d = 0; d < 4; d++) {
            placed += x.placed(d, 3);
        }
        DUE.is("all rows of four with six FACES", placed, 1296);
        for (int digits : new int[] {0, 12, 123, 124, 1233, 1235, 2345, 12341, 1230, 10234, -1234, Integer.MAX_VALUE,
            Integer.MIN_VALUE}) {
            DUE.is("order(" + digits + ")", x.order(digits), -1);
        }
        for (int bad : new int[] {-1, 4, Integer.MAX_VALUE, Integer.MIN_VALUE}) {
            DUE.is("placed(" + bad + ", 0)", x.placed(bad, 0), -1);
            DUE.is("placed(0, " + bad + ")", x.placed(0, bad), -1);
        }
        fair(x, "ab");
        DUE.is("placed(2, 0) of two", x.placed(2, 0), -1);
        DUE.is("placed(0, 2) of two", x.placed(0, 2), -1);
        DUE.is("order(1234) of two", x.order(1234), -1);
        DUE.is("order(13) of two", x.order(13), -1);
        DUE.is("order(11) of two", x.order(11), -1);
    }

    private static void noWords() {
        DiceRing x = new DiceRing();
        DUE.is("order(12) ahead of any", x.order(12), -1);
        DUE.is("placed(0, 0) ahead of any", x.placed(0, 0), -1);
        String[] bad = {"", "a", "aa", "aab", "abb", "bb", "ac", "acac", "bcbc", "abcde", "ab ", "a b", "AB", "abc1", "`a",
            "aaaaaaabbbbbbb", "abababababababababababababab", "abcabcabcabcabcabcabc", "ab\0", "cba1", "abcdd", "a`c", "a c", "adcdac"};
        for (String word : bad) {
            DUE.is("fair() of " + word, fair(x, word), -1);
        }
        DUE.is("order(12) then", x.order(12), -1);
        DUE.is("fair() of bcabca", fair(x, "bcabca") >= 0, true);
        DUE.is("fair() of acb2", fair(x, "acb2"), -1);
        DUE.is("order(231) of the latest", x.order(231), 4);
        Due.tell(x, "let a = 1;");
        DUE.is("order(231) of the latest told", x.order(231), 4);
    }

    private static void isWord(DiceRing x, String word) {
        for (int i = 0; i < word.length(); i++) {
            DUE.is("letter(" + i + ") of " + word, x.letter(i), word.charAt(i) - 'a');
        }
        DUE.is("letter behind " + word, x.letter(word.length()), -1);
        DUE.is("letter ahead of " + word, x.letter(-1), -1);
    }

    private static void first(int n, int f, int bits, String word) {
        DiceRing x = new DiceRing();
        DUE.is("firstWord(" + n + ", " + f + ", " + bits + ")", x.firstWord(n, f, bits), 1);
        isWord(x, word);
    }

    private static void firstWords() {
        first(2, 1, 0, "ab");
        first(2, 6, 0, "aaaaaabbbbbb");
        first(3, 4, 0, "aaaabbbbcccc");
        first(4, 3, 0, "aaabbbcccddd");
        for (int bits = 1; bits < 8; bits++) {
            first(2, 2, bits, "abba");
            first(2, 4, bits, "aabbbbaa");
            first(2, 6, bits, "aaabbbbbbaaa");
        }
        DiceRing x = new DiceRing();
        for (int f = 2; f <= 6; f += 2) {
            DUE.is("firstWord(2, " + f + ", 7) on one object", x.firstWord(2, f, 7), 1);
        }
        isWord(x, "aaabbbbbbaaa");
        for (int f = 1; f <= 6; f++) {
            if (f % 2 == 1) {
                DUE.is("firstWord(2, " + f + ", 1)", x.firstWord(2, f, 1), 0);
            }
        }
        for (int bits = 1; bits < 8; bits++) {
            for (int f = 1; f <= 4; f++) {
                DUE.is("firstWord(3, " + f + ", " + bits + ")", x.firstWord(3, f, bits), 0);
            }
            for (int f = 1; f <= 3; f++) {
                DUE.is("firstWord(4, " + f + ", " + bits + ")", x.firstWord(4, f, bits), 0);
            }
        }
    }

    private static void noFirstWords() {
        DiceRing x = new DiceRing();
        int[][] bad = {{1, 1, 0}, {5, 1, 0}, {2, 0, 0}, {2, 7, 0}, {2, -1, 0}, {3, 5, 0}, {4, 4, 0}, {3, 6, 7}, {2, 2, 8},
            {2, 2, -1}, {0, 0, 0}, {-2, -2, 0}, {Integer.MAX_VALUE, 2, 0}, {2, Integer.MAX_VALUE, 0}};
        for (int[] b : bad) {
            DUE.is("firstWord(" + b[0] + ", " + b[1] + ", " + b[2] + ")", x.firstWord(b[0], b[1], b[2]), -1);
        }
        DUE.is("letter(0) ahead of any", x.letter(0), -1);
    }

    private static void laid(int n, String word, int... pairs) {
        DiceRing x = new DiceRing();
        Due.layNumbers(x, pairs);
        DUE.is("laid(" + n + ") for " + word, x.laid(n), word.length() / n);
        DUE.is("count(2) after laid", x.count(2), 0);
        isWord(x, word);
    }

    private static void laidWords() {
        laid(2, "ab");
        laid(3, "abc");
        laid(4, "abcd");
        laid(2, "ba", 0, 1);
        laid(2, "ab", 1, 0);
        laid(2, "ba", 0, 1, 0, 1);
        laid(3, "cab", 0, 2, 1, 2);
        laid(3, "cba", 0, 1, 1, 2, 0, 2);
        laid(3, "acbbaccba", 0, 1, 1, 2, 2, 0);
        laid(4, "dcba", 0, 1, 1, 2, 2, 3);
        laid(4, "abdccbaddcba", 0, 1, 1, 2, 2, 3, 3, 0);
        laid(4, "acccdbbaddba", 0, 1, 1, 3, 3, 0);
        laid(4, "dcba", 0, 1, 0, 1, 0, 1, 0, 1, 1, 2, 1, 2, 1, 2, 1, 2, 2, 3, 2, 3, 2, 3, 0, 3);
    }

    private static void notLaid() {
        DiceRing x = new DiceRing();
        int[][] crossed = {{2, 0, 1, 1, 0}, {3, 2, 1, 1, 2}, {4, 3, 0, 1, 2, 0, 3}};
        for (int[] c : crossed) {
            lay(x, c);
            DUE.is("laid(" + c[0] + ") of crossed ones", x.laid(c[0]), -1);
        }
        int[][] bad = {{2, 0, 0}, {2, 0, 2}, {2, 2, 0}, {3, 0, 3}, {4, 4, 0}, {4, 0, 255}, {2, 0}, {3, 0, 1, 2}, {1}, {5}, {0},
            {-1}, {1, 0, 1}, {5, 0, 1}, {Integer.MAX_VALUE}, {Integer.MIN_VALUE},
            {2, 0, 1, 0, 1, 0, 1, 0, 1, 0, 1, 0, 1, 0, 1, 0, 1, 0, 1, 0, 1, 0, 1, 0, 1, 0, 1}};
        for (int[] b : bad) {
            lay(x, b);
            DUE.is("laid(" + b[0] + ") not as told", x.laid(b[0]), -2);
            DUE.is("count(2) then", x.count(2), 0);
        }
        DUE.is("letter(0) ahead of any", x.letter(0), -1);
    }

    private static void lay(DiceRing x, int[] diceAndPairs) {
        int[] pairs = new int[diceAndPairs.length - 1];
        System.arraycopy(diceAndPairs, 1, pairs, 0, pairs.length);
        Due.layNumbers(x, pairs);
    }

    private static void theLatestWordStays() {
        DiceRing x = new DiceRing();
        DUE.is("firstWord(2, 2, 7)", x.firstWord(2, 2, 7), 1);
        DUE.is("firstWord(2, 3, 7)", x.firstWord(2, 3, 7), 0);
        DUE.is("firstWord(9, 3, 7)", x.firstWord(9, 3, 7), -1);
        Due.layNumbers(x, 0, 1, 1, 0);
        DUE.is("laid(2)", x.laid(2), -1);
        Due.layNumbers(x, 0);
        DUE.is("laid(2)", x.laid(2), -2);
        fair(x, "abc");
        Due.tell(x, "die a 1;");
        isWord(x, "abba");
        Due.layNumbers(x, 0, 1);
        DUE.is("laid(2)", x.laid(2), 1);
        isWord(x, "ba");
        DUE.is("firstWord(3, 1, 0)", x.firstWord(3, 1, 0), 1);
        isWord(x, "abc");
    }
}
