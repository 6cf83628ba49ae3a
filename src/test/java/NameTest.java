/** Promises 6 to 9: about, all, ways, mean; and how the parts of a SUM are reckoned. */
public final class NameTest {
    private static final Due DUE = new Due("NameTest");

    public static void main(String[] args) {
        dice();
        sums();
        pairs();
        wayBelowAndAbove();
        means();
        noSuchNames();
        DUE.end();
    }

    private static void looks(DiceRing x, int k, int faces, int least, int greatest, long all) {
        DUE.is("about(" + k + ", 0)", x.about(k, 0), faces);
        DUE.is("about(" + k + ", 1)", x.about(k, 1), least);
        DUE.is("about(" + k + ", 2)", x.about(k, 2), greatest);
        DUE.is("all(" + k + ")", x.all(k), all);
    }

    /** WAYS of all numbers from one on, and none right beside these. */
    private static void hasWays(DiceRing x, int k, int from, long... want) {
        for (int n = from - 3; n < from + want.length + 3; n++) {
            int i = n - from;
            DUE.is("ways(" + k + ", " + n + ")", x.ways(k, n), i >= 0 && i < want.length ? want[i] : 0);
        }
    }

    private static void dice() {
        DiceRing x = Due.told("die a 5 2 5;die b 0;die c 60 0;die d 1 2 3 4 5 6 7 8 9 10 11 12;let e = a;");
        looks(x, 0, 3, 2, 5, 3);
        hasWays(x, 0, 2, 1, 0, 0, 2);
        looks(x, 1, 1, 0, 0, 1);
        hasWays(x, 1, 0, 1);
        looks(x, 2, 2, 0, 60, 2);
        looks(x, 3, 12, 1, 12, 12);
        hasWays(x, 3, 1, 1, 1, 1, 1, 1, 1, 1, 1, 1, 1, 1, 1);
        looks(x, 4, 0, 2, 5, 3);
        hasWays(x, 4, 2, 1, 0, 0, 2);
    }

    private static void sums() {
        DiceRing x = Due.told("die a 1 2;let b = a + a;let c = 2 of a;let d = a - a;let e = -a;let f = 3 - 2 of a + 1;"
                + "let g = 2 of (a - 5);let h = -(a - 60) - 3;let i = 1 of a + 0;let j = 60;let k = 3 of b - 6 of 1;");
        looks(x, 1, 0, 2, 4, 4);
        hasWays(x, 1, 2, 1, 2, 1);
        hasWays(x, 2, 2, 1, 2, 1);
        looks(x, 3, 0, -1, 1, 4);
        hasWays(x, 3, -1, 1, 2, 1);
        looks(x, 4, 0, -2, -1, 2);
        hasWays(x, 4, -2, 1, 1);
        hasWays(x, 5, 0, 1, 2, 1);
        hasWays(x, 6, -8, 1, 2, 1);
        hasWays(x, 7, 55, 1, 1);
        hasWays(x, 8, 1, 1, 1);
        looks(x, 9, 0, 60, 60, 1);
        looks(x, 10, 0, 0, 6, 64);
        hasWays(x, 10, 0, 1, 6, 15, 20, 15, 6, 1);
    }

    private static void pairs() {
        DiceRing x = Due.told("die a 1 2 3;die b 2 2 5;let c = high(a, b);let d = low(a, b);let e = more(a, b);"
                + "let f = more(b, a);let g = more(a, 0);let h = more(0, a);let i = high(a, 9) + low(a, 0);"
                + "let j = 2 of more(a, a);let k = high(high(a, a), a);let l = low(-a, -b);");
        DiceRing one = Due.told("let a = more(2, 1);let b = more(1, 2);die c 1 2;let d = more(c, c);");
        looks(one, 0, 0, 1, 1, 1);
        looks(one, 1, 0, 0, 0, 1);
        looks(one, 3, 0, 0, 1, 4);
        looks(x, 2, 0, 2, 5, 9);
        hasWays(x, 2, 2, 4, 2, 0, 3);
        looks(x, 3, 0, 1, 3, 9);
        hasWays(x, 3, 1, 3, 5, 1);
        looks(x, 4, 0, 0, 1, 9);
        hasWays(x, 4, 0, 7, 2);
        hasWays(x, 5, 0, 4, 5);
        looks(x, 6, 0, 1, 1, 3);
        hasWays(x, 6, 1, 3);
        looks(x, 7, 0, 0, 0, 3);
        hasWays(x, 7, 0, 3);
        hasWays(x, 8, 9, 9);
        hasWays(x, 9, 0, 36, 36, 9);
        hasWays(x, 10, 1, 1, 7, 19);
        hasWays(x, 11, -5, 3, 0, 2, 4);
    }

    private static void wayBelowAndAbove() {
        DiceRing x = Due.told("let a = -60 - 60 - 60 - 20;let b = -a;");
        looks(x, 0, 0, -200, -200, 1);
        looks(x, 1, 0, 200, 200, 1);
        DUE.is("ways(0, -200)", x.ways(0, -200), 1);
        DUE.is("ways(0, -201)", x.ways(0, -201), 0);
        DUE.is("ways(1, 200)", x.ways(1, 200), 1);
        DUE.is("ways(1, 201)", x.ways(1, 201), 0);
        DUE.is("ways(1, most)", x.ways(1, Integer.MAX_VALUE), 0);
        DUE.is("ways(1, least)", x.ways(1, Integer.MIN_VALUE), 0);
        DUE.is("ways(1, -200)", x.ways(1, -200), 0);
    }

    private static void hasMean(DiceRing x, int k, long upper, long lower, long spreadUpper, long spreadLower) {
        DUE.is("mean(" + k + ", 0)", x.mean(k, 0), upper);
        DUE.is("mean(" + k + ", 1)", x.mean(k, 1), lower);
        DUE.is("mean(" + k + ", 2)", x.mean(k, 2), spreadUpper);
        DUE.is("mean(" + k + ", 3)", x.mean(k, 3), spreadLower);
    }

    private static void means() {
        DiceRing x = Due.told("die a 1 2 3 4 5 6;let b = 2 of a;let c = -a;let d = a - a;let e = 7;let f = 0;"
                + "die g 0 0 1;die h 1 2 3 4 5 6 7 8 9 10;let i = 6 of h;let j = i + more(a, 7);");
        hasMean(x, 0, 7, 2, 35, 12);
        hasMean(x, 1, 7, 1, 35, 6);
        hasMean(x, 2, -7, 2, 35, 12);
        hasMean(x, 3, 0, 1, 35, 6);
        hasMean(x, 4, 7, 1, 0, 1);
        hasMean(x, 5, 0, 1, 0, 1);
        hasMean(x, 6, 1, 3, 2, 9);
        DUE.is("all(8)", x.all(8), 1000000);
        hasMean(x, 8, 33, 1, 99, 2);
        DUE.is("all(9)", x.all(9), 6000000);
        DUE.is("mean(9, 0)", x.mean(9, 0), 33);
        DUE.is("mean(9, 1)", x.mean(9, 1), 1);
        DUE.isThrown("mean(9, 2)", () -> x.mean(9, 2));
        DUE.isThrown("mean(9, 3)", () -> x.mean(9, 3));
        DUE.isThrown("mean(0, 4)", () -> x.mean(0, 4));
        DUE.isThrown("mean(0, -1)", () -> x.mean(0, -1));
        DUE.isThrown("mean(10, 0)", () -> x.mean(10, 0));
        DUE.isThrown("mean(-1, 0)", () -> x.mean(-1, 0));
    }

    private static void noSuchNames() {
        DiceRing x = Due.told("die a 1;let b = 2;");
        for (int k : new int[] {-1, 2, 12, Integer.MIN_VALUE, Integer.MAX_VALUE}) {
            DUE.is("all(" + k + ")", x.all(k), -1);
            DUE.is("ways(" + k + ", 1)", x.ways(k, 1), -1);
            for (int what = 0; what <= 2; what++) {
                int asked = what;
                DUE.isThrown("about(" + k + ", " + what + ")", () -> x.about(k, asked));
                DUE.isThrown("mean(" + k + ", " + what + ")", () -> x.mean(k, asked));
            }
        }
        DUE.isThrown("about(0, 3)", () -> x.about(0, 3));
        DUE.isThrown("about(0, -1)", () -> x.about(0, -1));
    }
}
