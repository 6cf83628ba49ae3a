import java.util.Arrays;

/** Sentence by sentence, what the document says of ROLLED, MEETS, APART and shifts: promises 28 to 32. */
public final class ThrowEdgesTest {
    private static final Due DUE = new Due("ThrowEdgesTest");
    private static final long WHOLE = 1000000000000000L;

    public static void main(String[] args) {
        oneToTwenty();
        zeroToSixty();
        partsOfEachDie();
        cut();
        theMostParts();
        ofTheLatestRow();
        meets();
        atLeastOne();
        aThousandAtMost();
        cutAndAdded();
        apart();
        shift();
        DUE.end();
    }

    private static int rolled(DiceRing x, int... row) {
        Due.layNumbers(x, row);
        return x.rolled();
    }

    private static void rolled(DiceRing x, int want, long[] parts, int... row) {
        DUE.is("rolled() of " + Arrays.toString(row), rolled(x, row), want);
        for (int k = -1; k < 14; k++) {
            DUE.is("rolledBy(" + k + ") of " + Arrays.toString(row), x.rolledBy(k), k >= 0 && k < parts.length ? parts[k] : 0);
        }
        DUE.is("rolledBy(least)", x.rolledBy(Integer.MIN_VALUE), 0);
        DUE.is("rolledBy(most)", x.rolledBy(Integer.MAX_VALUE), 0);
    }

    private static long[] l(long... parts) {
        return parts;
    }

    private static int[] times(int many, int number) {
        int[] row = new int[many];
        Arrays.fill(row, number);
        return row;
    }

    private static void oneToTwenty() {
        DUE.sentence("ROLLED: a row of 1 to 20 numbers:");
        DiceRing x = Due.told("die a 7;die b 7 8;");
        rolled(x, 0, l(WHOLE, WHOLE / 2), 7);
        DUE.is("rolled() of no number", rolled(x), -1);
        DUE.is("rolledBy(0) yet", x.rolledBy(0), WHOLE);
        DUE.is("rolledBy(1) yet", x.rolledBy(1), WHOLE / 2);
        for (int many = 1; many <= 20; many++) {
            rolled(x, 0, l(WHOLE, WHOLE >> many), times(many, 7));
        }
        DiceRing y = Due.told("die a 7;die b 7 8;");
        int[] last = times(20, 7);
        last[19] = 8;
        rolled(y, 1, l(0, WHOLE >> 20), last);
        last[0] = 9;
        rolled(y, -1, l(), last);
        rolled(y, 0, l(WHOLE, WHOLE >> 20), times(20, 7));
        for (int many : new int[] {21, 22, 40, 540}) {
            DUE.is("rolled() of " + many, rolled(y, times(many, 7)), -1);
            DUE.is("rolledBy(1) yet", y.rolledBy(1), WHOLE >> 20);
        }
    }

    private static void zeroToSixty() {
        DUE.sentence("ROLLED, the tape's bytes being numbers (0 to 60):");
        DiceRing x = Due.told("die a 0 60 1;let b=a;die c 0 60;");
        rolled(x, 2, l(333333333333333L, 0, WHOLE / 2), 0);
        rolled(x, 2, l(333333333333333L, 0, WHOLE / 2), 60);
        for (int bad : new int[] {61, 62, 100, 127, 128, 200, 255, '0', ' '}) {
            if (bad > 60) {
                DUE.is("rolled() of " + bad, rolled(x, bad), -1);
                DUE.is("rolled() of 0 and " + bad, rolled(x, 0, bad), -1);
                DUE.is("rolled() of " + bad + " and 0", rolled(x, bad, 0), -1);
                DUE.is("rolledBy(2) yet", x.rolledBy(2), WHOLE / 2);
            } else {
                rolled(x, -1, l(), bad);
                rolled(x, 2, l(333333333333333L, 0, WHOLE / 2), 60);
            }
        }
    }

    private static void partsOfEachDie() {
        DUE.sentence("of each die (told by 'die') its PARTS: 10^15, for each throw in order times how many FACES have it, by its FACES, cut.");
        DiceRing x = Due.told("let z=5;die a 1 2 2 3 3 3;let b=a;die c 5;die d 1 1 1 1 1 1 1 1 1 1 1 3;");
        rolled(x, 4, l(0, 166666666666666L, 0, 0, 916666666666666L), 1);
        rolled(x, 1, l(0, 333333333333333L), 2);
        rolled(x, 1, l(0, 500000000000000L, 0, 0, 83333333333333L), 3);
        rolled(x, 3, l(0, 0, 0, WHOLE), 5);
        rolled(x, 1, l(0, 83333333333333L, 0, 0, 76388888888888L), 1, 3);
        rolled(x, 1, l(0, 27777777777777L), 1, 2, 3);
        rolled(x, -1, l(), 4);
        rolled(x, -1, l(), 1, 5);
        StringBuilder twelve = new StringBuilder();
        for (char name = 'a'; name <= 'l'; name++) {
            twelve.append("die ").append(name).append(name == 'l' ? " 1;" : " 0 1;");
        }
        long half = WHOLE / 2;
        rolled(Due.told(twelve.toString()), 11, l(half, half, half, half, half, half, half, half, half, half, half, WHOLE), 1);
    }

    private static void cut() {
        DUE.sentence("for each throw in order times how many FACES have it, by its FACES, cut.");
        DiceRing x = Due.told("die a 1 2 2 2 2 3;");
        rolled(x, 0, l(111111111111110L), 1, 2);
        rolled(x, 0, l(111111111111111L), 2, 1);
        rolled(x, 0, l(666666666666666L), 2);
        // the last part that is left, and none
        DiceRing six = Due.told("die a 1 2 3 4 5 6;");
        rolled(six, 0, l(9), times(18, 6));
        rolled(six, 0, l(1), times(19, 6));
        rolled(six, -1, l(), times(20, 6));
        DiceRing both = Due.told("die a 1 2 3 4 5 6;die b 1 2 3 4 5 6 7;die c 1 1;");
        rolled(both, 0, l(1), times(19, 6));
        rolled(both, 2, l(1, 0, WHOLE), times(19, 1));
    }

    private static void theMostParts() {
        DUE.sentence("of all dice the one with the most PARTS (of like ones the first); NONE: none has any, or not as told.");
        DiceRing x = Due.told("let z=1;die a 1 2;die b 1 2 3;die c 2 1;die d 1 1 2 2;die e 1 1 1 2;");
        rolled(x, 1, l(0, WHOLE / 2, WHOLE / 3, WHOLE / 2, WHOLE / 2, WHOLE / 4), 2);
        rolled(x, 5, l(0, WHOLE / 2, WHOLE / 3, WHOLE / 2, WHOLE / 2, 3 * (WHOLE / 4)), 1);
        rolled(x, 2, l(0, 0, WHOLE / 3), 3);
        rolled(x, -1, l(), 0);
        rolled(Due.told("let a=1;let b=2;"), -1, l(), 1);
        rolled(new DiceRing(), -1, l(), 1);
        DUE.is("rolled() of none in an empty TABLE", new DiceRing().rolled(), -1);
    }

    private static void ofTheLatestRow() {
        DUE.sentence("PARTS of NAME k by the latest rolled() that had a row as told; 0: it is no die, or has none (also ahead of any).");
        DiceRing x = Due.told("die a 1;die b 1;die c 1;let d=1;");
        for (int k = -1; k < 13; k++) {
            DUE.is("rolledBy(" + k + ") ahead of any", x.rolledBy(k), 0);
        }
        DUE.is("rolled() not as told", rolled(x, 61), -1);
        DUE.is("rolledBy(0) ahead of any as told", x.rolledBy(0), 0);
        rolled(x, 0, l(WHOLE, WHOLE, WHOLE), 1);
        // a row as told that none has is the latest too; one that is not as told is not
        rolled(x, -1, l(), 2);
        rolled(x, 0, l(WHOLE, WHOLE, WHOLE), 1, 1);
        DUE.is("rolled() of none", rolled(x), -1);
        DUE.is("rolledBy(2) yet", x.rolledBy(2), WHOLE);
        // NAMES that are no more have none, whatever they were in either of the TABLES ahead
        Due.tell(x, "die a 1;die b 1;die c 1;die d 1;die e 1;");
        Due.tell(x, "die a 1;die b 1;die c 1;die d 1;die e 1;die f 1;");
        Due.tell(x, "die a 2;let b=1;");
        rolled(x, 0, l(WHOLE), 2);
        rolled(x, -1, l(), 1);
    }

    private static void meets() {
        DUE.sentence("MEETS of NAME k and T (0 to 200); NONE: not as told.");
        DiceRing x = Due.told("die a 1;die b 2;let c=4 of 50;let d=c-1;die e 60;die f 1 60;");
        for (int t = 0; t <= 200; t++) {
            DUE.is("meets(0, " + t + ")", x.meets(0, t), WHOLE);
            DUE.is("meets(1, " + t + ")", x.meets(1, t), t % 2 == 0 ? WHOLE : 0);
        }
        for (int t : new int[] {-1, -2, 201, 202, Integer.MIN_VALUE, Integer.MAX_VALUE}) {
            DUE.is("meets(0, " + t + ")", x.meets(0, t), -1);
        }
        DUE.is("meets(2, 199)", x.meets(2, 199), 0);
        DUE.is("meets(2, 200)", x.meets(2, 200), WHOLE);
        DUE.is("meets(3, 199)", x.meets(3, 199), WHOLE);
        DUE.is("meets(3, 200)", x.meets(3, 200), 0);
        DUE.is("meets(4, 180)", x.meets(4, 180), WHOLE);
        DUE.is("meets(4, 181)", x.meets(4, 181), 0);
        DUE.is("meets(5, 60)", x.meets(5, 60), WHOLE / 2);
        for (int k : new int[] {-1, 6, 11, 12, Integer.MIN_VALUE, Integer.MAX_VALUE}) {
            DUE.is("meets(" + k + ", 0)", x.meets(k, 0), -1);
            DUE.is("meets(" + k + ", 1)", x.meets(k, 1), -1);
        }
        DUE.is("meets(0, 0) of an empty TABLE", new DiceRing().meets(0, 0), -1);
        DUE.sentence("PARTS of 0 are 10^15;");
        for (int k = 0; k < 6; k++) {
            DUE.is("meets(" + k + ", 0)", x.meets(k, 0), WHOLE);
        }
    }

    private static void atLeastOne() {
        DUE.sentence("MEETS: a NAME the numbers of which are all 1 at least,");
        DiceRing x = Due.told("die a 1 9;die b 0 9;let c=a-1;let d=-a;let e=0;let f=1;let g=a-2;let h=b+1;let i=high(b,1);"
                + "let j=low(a,0);let k=more(a,0);let l=more(a,1);");
        boolean[] told = {true, false, false, false, false, true, false, true, true, false, true, false};
        for (int k = 0; k < told.length; k++) {
            for (int t : new int[] {0, 1, 5, 200}) {
                DUE.is("meets(" + k + ", " + t + ") is as told", x.meets(k, t) != -1, told[k]);
            }
        }
    }

    private static void aThousandAtMost() {
        DUE.sentence("with ALL 1000 at most,");
        DiceRing x = Due.told("die a 1 2 3 4 5 6 7 8 9 10;let b=3 of a;die c 1 2 3 4 5 6 7 8 9 10 11 12;die d 1 1 1 1 1 1 1;"
                + "let e=c+d+c;let f=4 of a;die g 1 1 1 1 1 1 1 1 1;die h 1 1 1 1 1 1 1 1 1 1 1;let i=a+g+h;");
        DUE.is("all(1)", x.all(1), 1000);
        DUE.is("all(4)", x.all(4), 1008);
        DUE.is("all(8)", x.all(8), 990);
        DUE.is("meets(1, 3)", x.meets(1, 3), WHOLE / 1000);
        DUE.is("meets(1, 0)", x.meets(1, 0), WHOLE);
        DUE.is("meets(4, 3)", x.meets(4, 3), -1);
        DUE.is("meets(4, 0)", x.meets(4, 0), -1);
        DUE.is("meets(5, 4)", x.meets(5, 4), -1);
        DUE.is("meets(8, 3)", x.meets(8, 3), WHOLE / 10);
    }

    private static void cutAndAdded() {
        DUE.sentence("for each number v of the NAME, rising, the PARTS of v less than it times WAYS by ALL, cut, added.");
        DiceRing x = Due.told("die a 1 2 3 4 5 6;die b 1 1 1 1 1 2;die c 3 5 5;die d 1 3;");
        DUE.is("meets(0, 1)", x.meets(0, 1), 166666666666666L);
        DUE.is("meets(0, 2), cut apart", x.meets(0, 2), 194444444444443L);
        DUE.is("meets(1, 1), WAYS ahead of ALL", x.meets(1, 1), 833333333333333L);
        DUE.is("meets(1, 2)", x.meets(1, 2), 694444444444444L + 166666666666666L);
        long[] three = {WHOLE, 0, 0, 333333333333333L, 0, 666666666666666L, 111111111111111L, 0, 444444444444444L};
        for (int t = 0; t < three.length; t++) {
            DUE.is("meets(2, " + t + ")", x.meets(2, t), three[t]);
        }
        long[] two = {WHOLE, WHOLE / 2, WHOLE / 4, 625000000000000L, 562500000000000L, 406250000000000L};
        for (int t = 0; t < two.length; t++) {
            DUE.is("meets(3, " + t + ")", x.meets(3, t), two[t]);
        }
        // each number of the NAME counts up to T itself, and no further
        DiceRing y = Due.told("die a 2 4;");
        DUE.is("meets(0, 3)", y.meets(0, 3), 0);
        DUE.is("meets(0, 4)", y.meets(0, 4), 750000000000000L);
    }

    private static void apart() {
        DUE.sentence("APART: of two NAMES the sum over all numbers of how far WAYS of one times ALL of the other are from the other's times its ALL.");
        DiceRing x = Due.told("die a 1 2;die b 1 1 2 2;die c 1 2 2;die d 3;let e=-4 of 50;let f=4 of 50;die g 2 3;let h=a-a;");
        int[][] want = {{0, 0, 0}, {0, 1, 0}, {0, 2, 2}, {1, 2, 4}, {0, 3, 4}, {3, 3, 0}, {4, 5, 2}, {0, 6, 4}, {2, 6, 6}, {4, 0, 4},
            {0, 7, 12}, {7, 7, 0}};
        for (int[] w : want) {
            DUE.is("apart(" + w[0] + ", " + w[1] + ")", x.apart(w[0], w[1]), w[2]);
            DUE.is("apart(" + w[1] + ", " + w[0] + ")", x.apart(w[1], w[0]), w[2]);
        }
        DiceRing most = Due.told("die a 0 1 2 3 4 5 6 7 8 9;let b=3 of(3 of a);let c=b-60-60;let d=b+1;");
        DUE.is("apart(1, 2)", most.apart(1, 2), 2000000000000000000L);
        DUE.is("apart(1, 1)", most.apart(1, 1), 0);
        DUE.is("apart(1, 3) is even", most.apart(1, 3) % 2, 0);
        DUE.is("apart(1, 3) is more than none", most.apart(1, 3) > 0, true);
        DUE.sentence("APART of two NAMES; NONE: no such ones.");
        for (int k : new int[] {-1, 8, 12, Integer.MIN_VALUE, Integer.MAX_VALUE}) {
            DUE.is("apart(" + k + ", 0)", x.apart(k, 0), -1);
            DUE.is("apart(0, " + k + ")", x.apart(0, k), -1);
            DUE.is("apart(" + k + ", " + k + ")", x.apart(k, k), -1);
        }
        DUE.is("apart(7, 7)", x.apart(7, 7), 0);
        DUE.is("apart(0, 0) of an empty TABLE", new DiceRing().apart(0, 0), -1);
    }

    private static void shift(DiceRing x, int a, int b, int want) {
        DUE.is("shift(" + a + ", " + b + ")", x.shift(a, b), want);
        DUE.is("shift(" + b + ", " + a + ")", x.shift(b, a), want == 1000 ? 1000 : -want);
    }

    private static void shift() {
        DUE.sentence("What is to be added to each number of NAME a so that it has the WAYS of b; 1000: nothing does; NONE is a number like others.");
        DiceRing x = Due.told("die a 1 2 2 4;die b 0 1 1 3;let c=a+60;die d 1 2 4 4;die e 1 1 2 2 2 2 4 4;let f=4 of 50;let g=-f;"
                + "die h 1 2 2 5;die i 1 3 3 4;die j 2 3 3 5;die k 1 2 2 4 4;die l 1 2 2;");
        shift(x, 0, 0, 0);
        shift(x, 0, 1, -1);
        shift(x, 0, 9, 1);
        shift(x, 0, 2, 60);
        shift(x, 5, 6, -400);
        shift(x, 1, 2, 61);
        for (int k : new int[] {3, 4, 5, 6, 7, 8, 10, 11}) {
            shift(x, 0, k, 1000);
        }
        DiceRing y = Due.told("die a 1 2;let b=a;let c=0-a;let d=3-a;die e 1 1 2 2;let f=2 of a;let g=a+a-1;let h=-f;");
        shift(y, 0, 1, 0);
        shift(y, 0, 2, -3);
        shift(y, 0, 3, 0);
        shift(y, 0, 4, 1000);
        shift(y, 5, 6, -1);
        shift(y, 5, 7, -6);
        DUE.sentence("NoSuchElementException: no such ones.");
        for (int k : new int[] {-1, 12, 13, Integer.MIN_VALUE, Integer.MAX_VALUE}) {
            DUE.isThrown("shift(" + k + ", 0)", () -> x.shift(k, 0));
            DUE.isThrown("shift(0, " + k + ")", () -> x.shift(0, k));
            DUE.isThrown("shift(" + k + ", " + k + ")", () -> x.shift(k, k));
        }
        DUE.isThrown("shift(8, 0) of eight NAMES", () -> y.shift(8, 0));
        DUE.isThrown("shift(0, 8) of eight NAMES", () -> y.shift(0, 8));
        DUE.is("shift(7, 7) of eight NAMES", y.shift(7, 7), 0);
        DUE.isThrown("shift(0, 0) of an empty TABLE", () -> new DiceRing().shift(0, 0));
    }
}
