/** Promises 18 and 19: picks, pickAt. */
public final class PicksTest {
    private static final Due DUE = new Due("PicksTest");
    private static final String THREE = "die a 2 4 9;die b 1 6 8;die c 3 5 7;";

    public static void main(String[] args) {
        balanced();
        unlikeShares();
        noSuchSets();
        evenNames();
        theLatestStays();
        DUE.end();
    }

    private static void picks(DiceRing x, int set, int... shares) {
        int holders = 0;
        for (int share : shares) {
            holders += share > 0 ? 1 : 0;
        }
        DUE.is("picks(" + set + ")", x.picks(set), holders);
        for (int k = 0; k < 12; k++) {
            DUE.is("pickAt(" + k + ") after picks(" + set + ")", x.pickAt(k), k < shares.length ? shares[k] : 0);
        }
    }

    private static void balanced() {
        DiceRing x = Due.told(THREE + "let d = 0;let e = 20;let f = 21;let g = 22;let h = 23;");
        picks(x, 7, 1, 1, 1);
        picks(x, 15, 1, 1, 1);
        picks(x, 3, 1);
        picks(x, 6, 0, 1);
        picks(x, 5, 0, 0, 1);
        picks(x, 8, 0, 0, 0, 1);
        picks(x, 31, 0, 0, 0, 0, 1);
        picks(x, 127, 0, 0, 0, 0, 0, 0, 1);
        picks(x, 254, 0, 0, 0, 0, 0, 0, 0, 1);
        DUE.is("picks(255)", x.picks(255), -2);
        String seven = "die a 2 2 14 14 17 17;die b 7 7 10 10 16 16;die c 5 5 13 13 15 15;die d 3 3 9 9 21 21;"
                + "die e 1 1 12 12 20 20;die f 6 6 8 8 19 19;die g 4 4 11 11 18 18;";
        picks(Due.told(seven), 127, 1, 1, 1, 1, 1, 1, 1);
    }

    private static void unlikeShares() {
        DiceRing five = Due.told("die a 3 11 12 17 19;die b 5 6 13 15 20;die c 1 2 18 21 23;die d 7 8 10 14 16;"
                + "die e 0 4 9 22 24;");
        picks(five, 31, 1, 1, 3, 1, 3);
        balances(five, 31);
        String seven = "die a 3 10 11 29 34;die b 0 1 19 31 33;die c 2 13 17 20 32;die d 7 8 16 27 30;"
                + "die e 9 15 18 21 24;die f 4 5 23 25 26;die g 6 12 14 22 28;";
        picks(Due.told(seven), 127, 3, 3, 1, 1, 5, 7, 5);
        for (int set = 1; set < 128; set++) {
            DiceRing x = Due.told(seven);
            DUE.is("picks(" + set + ") of seven", x.picks(set) % 2, 1);
            balances(x, set);
        }
    }

    /** Against the shares no NAME of the set beats more than beat it, and they are in least numbers. */
    private static void balances(DiceRing x, int set) {
        int common = 0;
        for (int i = 0; i < 12; i++) {
            common = greatestCommon(common, x.pickAt(i));
            if ((set >> i & 1) == 0) {
                DUE.is("pickAt(" + i + ") out of " + set, x.pickAt(i), 0);
                continue;
            }
            long gain = 0;
            for (int j = 0; j < x.count(0); j++) {
                gain += (long) x.beats(i, j, 1) * x.pickAt(j);
            }
            DUE.is("gain of " + i + " in " + set + " is above 0", gain > 0, false);
        }
        DUE.is("common part of shares in " + set, common, 1);
    }

    private static int greatestCommon(int a, int b) {
        return b == 0 ? a : greatestCommon(b, a % b);
    }

    private static void noSuchSets() {
        DiceRing x = Due.told(THREE);
        DUE.is("picks(0)", x.picks(0), -2);
        DUE.is("picks(8)", x.picks(8), -2);
        DUE.is("picks(9)", x.picks(9), -2);
        DUE.is("picks(-1)", x.picks(-1), -2);
        DUE.is("picks(least)", x.picks(Integer.MIN_VALUE), -2);
        DUE.is("picks(most)", x.picks(Integer.MAX_VALUE), -2);
        DUE.is("picks(1 << 30)", x.picks(1 << 30), -2);
        DiceRing all = Due.told("let a=1;let b=2;let c=3;let d=4;let e=5;let f=6;let g=7;let h=8;let i=9;let j=10;"
                + "let k=11;let l=11;");
        DUE.is("picks(1 << 11)", all.picks(1 << 11), 1);
        DUE.is("pickAt(11)", all.pickAt(11), 1);
        DUE.is("picks(1 << 12)", all.picks(1 << 12), -2);
        DUE.is("picks of two that are even", all.picks(3 << 10), -1);
        DUE.is("picks of eight with two that are even", all.picks(0xff0), -2);
        DUE.is("picks of seven", all.picks(0x7f0), 1);
        DUE.is("pickAt(10)", all.pickAt(10), 1);
    }

    private static void evenNames() {
        DiceRing x = Due.told("die a 1 4;die b 2 3;die c 2 4;let d = 9;");
        DUE.is("picks(3)", x.picks(3), -1);
        DUE.is("pickAt(0) ahead of any", x.pickAt(0), 0);
        DUE.is("picks(11)", x.picks(11), -1);
        DUE.is("picks(8)", x.picks(8), 1);
        DUE.is("pickAt(3)", x.pickAt(3), 1);
    }

    private static void theLatestStays() {
        DiceRing x = Due.told(THREE);
        DUE.is("picks(7)", x.picks(7), 3);
        DUE.is("picks(0)", x.picks(0), -2);
        DUE.is("pickAt(2)", x.pickAt(2), 1);
        Due.tell(x, "let a = 1;let b = 1;");
        DUE.is("picks(3)", x.picks(3), -1);
        DUE.is("pickAt(2) then", x.pickAt(2), 1);
        DUE.is("pickAt(3)", x.pickAt(3), 0);
        DUE.is("pickAt(-1)", x.pickAt(-1), 0);
        DUE.is("pickAt(12)", x.pickAt(12), 0);
        DUE.is("pickAt(most)", x.pickAt(Integer.MAX_VALUE), 0);
        DUE.is("picks(1)", x.picks(1), 1);
        DUE.is("pickAt(2) of others", x.pickAt(2), 0);
    }
}
