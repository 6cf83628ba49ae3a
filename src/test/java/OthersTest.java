import java.util.Arrays;

/** Promises 20 and 21: others, otherAt. */
public final class OthersTest {
    private static final Due DUE = new Due("OthersTest");
    private static final String SIX = "die a 1 2 3 4 5 6;";

    public static void main(String[] args) {
        sicherman();
        orderOfPairs();
        wideFaces();
        unlikeNumbersOfFaces();
        edges();
        moreThanKept();
        notAsTold();
        theLatestStays();
        DUE.end();
    }

    private static long[] faces(DiceRing x, int k, int which, int many) {
        long[] faces = new long[many];
        for (int i = 0; i < many; i++) {
            faces[i] = x.otherAt(k, which, i);
        }
        DUE.isThrown("otherAt(" + k + ", " + which + ", " + many + ")", () -> x.otherAt(k, which, many));
        DUE.isThrown("otherAt(" + k + ", " + which + ", -1)", () -> x.otherAt(k, which, -1));
        return faces;
    }

    private static void pair(DiceRing x, int k, long[] wantX, long[] wantY) {
        DUE.row("pair " + k + "'s x", faces(x, k, 0, wantX.length), wantX);
        DUE.row("pair " + k + "'s y", faces(x, k, 1, wantY.length), wantY);
    }

    private static long[] l(long... numbers) {
        return numbers;
    }

    private static void sicherman() {
        DiceRing x = Due.told(SIX);
        DUE.is("others(0, 0, 6, 6, 1)", x.others(0, 0, 6, 6, 1), 2);
        pair(x, 0, l(1, 2, 2, 3, 3, 4), l(1, 3, 4, 5, 6, 8));
        pair(x, 1, l(1, 2, 3, 4, 5, 6), l(1, 2, 3, 4, 5, 6));
        DUE.isThrown("otherAt(2, 0, 0)", () -> x.otherAt(2, 0, 0));
        DUE.isThrown("otherAt(-1, 0, 0)", () -> x.otherAt(-1, 0, 0));
        DUE.isThrown("otherAt(0, 2, 0)", () -> x.otherAt(0, 2, 0));
        DUE.isThrown("otherAt(0, -1, 0)", () -> x.otherAt(0, -1, 0));
    }

    private static void orderOfPairs() {
        DiceRing x = Due.told(SIX);
        DUE.is("others(0, 0, 6, 6, 0)", x.others(0, 0, 6, 6, 0), 5);
        pair(x, 0, l(0, 1, 1, 2, 2, 3), l(2, 4, 5, 6, 7, 9));
        pair(x, 1, l(0, 1, 2, 3, 4, 5), l(2, 3, 4, 5, 6, 7));
        pair(x, 2, l(0, 2, 3, 4, 5, 7), l(2, 3, 3, 4, 4, 5));
        pair(x, 3, l(1, 2, 2, 3, 3, 4), l(1, 3, 4, 5, 6, 8));
        pair(x, 4, l(1, 2, 3, 4, 5, 6), l(1, 2, 3, 4, 5, 6));
        // more of the least FACE come ahead of less
        DiceRing y = Due.told("die a 0 0 1 1;die b 0 0 0 0;");
        DUE.is("others(0, 1, 2, 8, 0)", y.others(0, 1, 2, 8, 0), 2);
        pair(y, 0, l(0, 0), l(0, 0, 0, 0, 1, 1, 1, 1));
        pair(y, 1, l(0, 1), l(0, 0, 0, 0, 0, 0, 0, 0));
        // of p = q x's FACES are not behind y's
        DUE.is("others(0, 1, 4, 4, 0)", y.others(0, 1, 4, 4, 0), 1);
        pair(y, 0, l(0, 0, 0, 0), l(0, 0, 1, 1));
    }

    /** What begins with the least FACE comes first, also where it is found late. */
    private static void wideFaces() {
        DiceRing x = Due.told("die a 5 6;die b 5 25 40 60;");
        DUE.is("others(0, 1, 2, 4, 0)", x.others(0, 1, 2, 4, 0), 28);
        pair(x, 0, l(0, 20), l(10, 11, 45, 46));
        pair(x, 1, l(0, 35), l(10, 11, 30, 31));
        pair(x, 10, l(5, 6), l(5, 25, 40, 60));
        pair(x, 11, l(5, 25), l(5, 6, 40, 41));
        pair(x, 27, l(10, 45), l(0, 1, 20, 21));
    }

    private static void unlikeNumbersOfFaces() {
        DiceRing x = Due.told(SIX + "die b 1 2 3 4;die c 5;die d 1 1 2 9;");
        DUE.is("others(0, 0, 4, 9, 1)", x.others(0, 0, 4, 9, 1), 3);
        pair(x, 0, l(1, 2, 2, 3), l(1, 3, 3, 5, 5, 5, 7, 7, 9));
        DUE.is("others(0, 0, 1, 36, 1)", x.others(0, 0, 1, 36, 1), 1);
        DUE.is("otherAt(0, 0, 0)", x.otherAt(0, 0, 0), 1);
        DUE.is("otherAt(0, 1, 0)", x.otherAt(0, 1, 0), 1);
        DUE.is("otherAt(0, 1, 35)", x.otherAt(0, 1, 35), 11);
        DUE.is("others(0, 1, 4, 6, 1)", x.others(0, 1, 4, 6, 1) > 0, true);
        addUp(x, 0, 1, 4, 6);
        DUE.is("others(1, 0, 2, 12, 0)", x.others(1, 0, 2, 12, 0) > 0, true);
        addUp(x, 1, 0, 2, 12);
        DUE.is("others(2, 2, 1, 1, 0)", x.others(2, 2, 1, 1, 0), 6);
        pair(x, 0, l(0), l(10));
        pair(x, 5, l(5), l(5));
        DUE.is("others(0, 3, 2, 12, 1)", x.others(0, 3, 2, 12, 1) > 0, true);
        addUp(x, 0, 3, 2, 12);
    }

    /** All sums of the first pair are those of a and b. */
    private static void addUp(DiceRing x, int a, int b, int p, int q) {
        long[] sums = new long[121];
        long[] ys = faces(x, 0, 1, q);
        for (long face : faces(x, 0, 0, p)) {
            for (long other : ys) {
                sums[(int) (face + other)]++;
            }
        }
        long[] want = new long[121];
        for (int i = x.about(a, 1); i <= x.about(a, 2); i++) {
            for (int j = x.about(b, 1); j <= x.about(b, 2); j++) {
                want[i + j] += x.ways(a, i) * x.ways(b, j);
            }
        }
        DUE.is("sums of " + p + " and " + q + " FACES are alike", Arrays.equals(sums, want), true);
    }

    private static void edges() {
        DiceRing x = Due.told("die a 60 60;die b 60;die c 0 1;die d 0 60;die e 1 2 3 4 5 6 7 8;die f 30;");
        DUE.is("others(0, 1, 1, 2, 60)", x.others(0, 1, 1, 2, 60), 1);
        pair(x, 0, l(60), l(60, 60));
        DUE.is("others(0, 1, 1, 2, 0)", x.others(0, 1, 1, 2, 0), 1);
        DUE.is("others(3, 3, 2, 2, 0)", x.others(3, 3, 2, 2, 0), 1);
        pair(x, 0, l(0, 60), l(0, 60));
        DUE.is("others(3, 3, 1, 4, 0), as no FACE is above 60", x.others(3, 3, 1, 4, 0), 0);
        DUE.is("others(3, 1, 1, 2, 0)", x.others(3, 1, 1, 2, 0), 1);
        pair(x, 0, l(60), l(0, 60));
        DUE.is("others(1, 1, 1, 1, 0)", x.others(1, 1, 1, 1, 0), 1);
        DUE.is("others(5, 5, 1, 1, 0)", x.others(5, 5, 1, 1, 0), 31);
        pair(x, 30, l(30), l(30));
        DUE.is("others(5, 5, 1, 1, 30)", x.others(5, 5, 1, 1, 30), 1);
        DUE.is("others(5, 5, 1, 1, 31)", x.others(5, 5, 1, 1, 31), 0);
        DUE.is("others(2, 1, 1, 2, 0)", x.others(2, 1, 1, 2, 0), 60);
        DUE.is("others(2, 2, 2, 2, 0)", x.others(2, 2, 2, 2, 0), 1);
        // what reaches 60 and does not come out is given back
        DiceRing high = Due.told("die a 58 60;die b 57 57 58 58 59 59;");
        DUE.is("others(0, 1, 2, 6, 57)", high.others(0, 1, 2, 6, 57), 2);
        pair(high, 0, l(57, 59), l(58, 58, 59, 59, 60, 60));
        pair(high, 1, l(58, 60), l(57, 57, 58, 58, 59, 59));
        DUE.is("others(4, 4, 8, 8, 1)", x.others(4, 4, 8, 8, 1), 4);
        DUE.is("others(4, 4, 1, 64, 1)", x.others(4, 4, 1, 64, 1), 1);
        DUE.is("otherAt(0, 1, 63)", x.otherAt(0, 1, 63), 15);
        DUE.isThrown("otherAt(0, 1, 64)", () -> x.otherAt(0, 1, 64));
    }

    private static void moreThanKept() {
        String dice = "die a 24 25 25 26 27 28 28 29;die b 24 25 25 26 27 28 28 29;";
        for (int k = 1; k < 100; k++) {
            DiceRing x = Due.told(dice);
            DUE.is("others(0, 1, 4, 16, 0) are more than 100", x.others(0, 1, 4, 16, 0) > 100, true);
            DUE.is("pair " + k + " comes behind the one ahead", compare(x, k - 1, k, 4) < 0, true);
            DUE.isThrown("otherAt(100, 0, 0)", () -> x.otherAt(100, 0, 0));
        }
    }

    private static int compare(DiceRing x, int first, int second, int p) {
        for (int i = 0; i < p; i++) {
            int less = x.otherAt(first, 0, i) - x.otherAt(second, 0, i);
            if (less != 0) {
                return less;
            }
        }
        return 0;
    }

    private static void notAsTold() {
        DiceRing x = Due.told(SIX + "let b = a;die c 1 2 3 4 5 6 7 8 9;die d 1 2 3 4 5 6 7 8;die e 3;");
        int[][] bad = {{0, 1, 6, 6, 1}, {1, 0, 6, 6, 1}, {0, 2, 6, 9, 1}, {2, 0, 6, 9, 1}, {0, 5, 6, 6, 1}, {-1, 0, 6, 6, 1},
            {0, 0, 9, 4, 1}, {0, 0, 5, 7, 1}, {0, 0, 6, 6, -1}, {0, 0, 6, 6, 61}, {0, 0, -6, -6, 1}, {0, 0, 0, 36, 1},
            {0, 0, 36, 1, 1}, {0, 0, -36, -1, 1}, {3, 3, 65536, 65536, 0}, {3, 3, 1 << 30, 1 << 30, 1}, {0, 0, 6, 7, 1},
            {4, 4, 1, 2, 0}, {4, 4, 0, 0, 0}, {4, 4, 65537, 65537, 0}, {4, 0, 3, 2, 0}};
        for (int[] b : bad) {
            DUE.is("others" + Arrays.toString(b), x.others(b[0], b[1], b[2], b[3], b[4]), -1);
        }
        DUE.isThrown("otherAt ahead of any", () -> x.otherAt(0, 0, 0));
        DUE.is("others(3, 0, 6, 8, 1)", x.others(3, 0, 6, 8, 1) > 0, true);
    }

    private static void theLatestStays() {
        DiceRing x = Due.told(SIX);
        DUE.is("others(0, 0, 6, 6, 1)", x.others(0, 0, 6, 6, 1), 2);
        DUE.is("others(0, 0, 6, 7, 1)", x.others(0, 0, 6, 7, 1), -1);
        Due.tell(x, "let a = 3;");
        DUE.is("others(0, 0, 1, 1, 1)", x.others(0, 0, 1, 1, 1), -1);
        pair(x, 0, l(1, 2, 2, 3, 3, 4), l(1, 3, 4, 5, 6, 8));
        Due.tell(x, SIX);
        DUE.is("others(0, 0, 6, 6, 2)", x.others(0, 0, 6, 6, 2), 0);
        DUE.isThrown("otherAt(0, 0, 0) of none", () -> x.otherAt(0, 0, 0));
    }
}
