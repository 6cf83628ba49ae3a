/** Promises 28 to 32: rolled, rolledBy, meets, apart, shift. */
public final class ThrowTest {
    private static final Due DUE = new Due("ThrowTest");
    private static final long WHOLE = 1000000000000000L;
    private static final String DICE = "die a 1 2 3 4 5 6;die e 0 2 2 2 5 5;let c = a;die d 60;die f 60 60;";

    public static void main(String[] args) {
        rolls();
        rowsNotAsTold();
        theLatestRowStays();
        meetings();
        meetingsNotAsTold();
        aparts();
        shifts();
        DUE.end();
    }

    private static int rolled(DiceRing x, int... row) {
        Due.layNumbers(x, row);
        int best = x.rolled();
        DUE.is("count(2) after rolled()", x.count(2), 0);
        return best;
    }

    private static void rolledBy(DiceRing x, long... parts) {
        for (int k = 0; k < 12; k++) {
            DUE.is("rolledBy(" + k + ")", x.rolledBy(k), k < parts.length ? parts[k] : 0);
        }
    }

    private static void rolls() {
        DiceRing x = Due.told(DICE);
        DUE.is("rolled() of 2", rolled(x, 2), 1);
        rolledBy(x, 166666666666666L, 500000000000000L);
        DUE.is("rolled() of 1", rolled(x, 1), 0);
        rolledBy(x, 166666666666666L);
        DUE.is("rolled() of 0 5 2", rolled(x, 0, 5, 2), 1);
        rolledBy(x, 0, 166666666666666L * 2 / 6 * 3 / 6);
        // each throw's part is cut ahead of the next one
        DUE.is("rolled() of 5 5 5", rolled(x, 5, 5, 5), 1);
        rolledBy(x, 4629629629629L, 37037037037037L);
        DUE.is("rolled() of 60, of like ones the first", rolled(x, 60), 3);
        rolledBy(x, 0, 0, 0, WHOLE, WHOLE);
        int[] twenty = new int[20];
        java.util.Arrays.fill(twenty, 60);
        DUE.is("rolled() of twenty", rolled(x, twenty), 3);
        rolledBy(x, 0, 0, 0, WHOLE, WHOLE);
        DUE.is("rolled() of 7", rolled(x, 7), -1);
        rolledBy(x);
        DiceRing y = Due.told("die b 1 2 3 4 5 6 7 8 9 10 11 12;die a 1 2 3 4 5 6 7 8 9 10 12 12;let c = 1;");
        DUE.is("rolled() of 12 12", rolled(y, 12, 12), 1);
        DUE.is("rolled() of 11 12", rolled(y, 11, 12), 0);
        DUE.is("rolled() of 1 2", rolled(y, 1, 2), 0);
        int[] ones = new int[20];
        java.util.Arrays.fill(ones, 1);
        DUE.is("rolled() of which no PARTS are left", rolled(y, ones), -1);
        DUE.is("rolledBy(0)", y.rolledBy(0), 0);
    }

    private static void rowsNotAsTold() {
        DiceRing x = Due.told(DICE);
        DUE.is("rolledBy(0) ahead of any", x.rolledBy(0), 0);
        DUE.is("rolled() of 2", rolled(x, 2), 1);
        DUE.is("rolled() of no row", rolled(x), -1);
        DUE.is("rolled() of 61", rolled(x, 61), -1);
        DUE.is("rolled() of 2 255", rolled(x, 2, 255), -1);
        DUE.is("rolled() of twenty-one", rolled(x, new int[21]), -1);
        rolledBy(x, 166666666666666L, 500000000000000L);
        DUE.is("rolledBy(-1)", x.rolledBy(-1), 0);
        DUE.is("rolledBy(12)", x.rolledBy(12), 0);
        DUE.is("rolledBy(most)", x.rolledBy(Integer.MAX_VALUE), 0);
        DUE.is("rolledBy(least)", x.rolledBy(Integer.MIN_VALUE), 0);
        DUE.is("rolled() of no dice", rolled(Due.told("let a = 1;"), 1), -1);
        DUE.is("rolled() of no NAMES", rolled(new DiceRing(), 1), -1);
    }

    private static void theLatestRowStays() {
        DiceRing x = Due.told(DICE);
        rolled(x, 2);
        Due.tell(x, "let a = 2;");
        rolledBy(x, 166666666666666L, 500000000000000L);
        DUE.is("rolled() of no dice", rolled(x, 2), -1);
        rolledBy(x);
    }

    private static void meetings() {
        DiceRing x = Due.told("die a 1 2 3 4 5 6;die b 1;die c 3;die d 2 2 5;let e = 2 of a;let f = 60 + 60 + 60 + 20;");
        DUE.is("meets(0, 0)", x.meets(0, 0), WHOLE);
        DUE.is("meets(0, 1)", x.meets(0, 1), 166666666666666L);
        DUE.is("meets(0, 2)", x.meets(0, 2), 194444444444443L);
        DUE.is("meets(1, 200)", x.meets(1, 200), WHOLE);
        DUE.is("meets(2, 198)", x.meets(2, 198), WHOLE);
        DUE.is("meets(2, 200)", x.meets(2, 200), 0);
        DUE.is("meets(3, 1)", x.meets(3, 1), 0);
        DUE.is("meets(3, 2)", x.meets(3, 2), 666666666666666L);
        DUE.is("meets(3, 3)", x.meets(3, 3), 0);
        DUE.is("meets(3, 4)", x.meets(3, 4), 444444444444444L);
        DUE.is("meets(3, 5)", x.meets(3, 5), 333333333333333L);
        DUE.is("meets(3, 7)", x.meets(3, 7), 444444444444444L);
        DUE.is("meets(4, 0)", x.meets(4, 0), WHOLE);
        DUE.is("meets(4, 2)", x.meets(4, 2), 27777777777777L);
        DUE.is("meets(5, 199)", x.meets(5, 199), 0);
        DUE.is("meets(5, 200)", x.meets(5, 200), WHOLE);
    }

    private static void meetingsNotAsTold() {
        DiceRing x = Due.told("die a 1 2 3 4 5 6 7 8 9 10;die b 0 1;let c = -a;let d = 3 of a;die t 1 1;let e = d - 2;"
                + "let f = d - 3;let g = d + more(t, 5);");
        DUE.is("meets(0, -1)", x.meets(0, -1), -1);
        DUE.is("meets(0, 201)", x.meets(0, 201), -1);
        DUE.is("meets(0, least)", x.meets(0, Integer.MIN_VALUE), -1);
        DUE.is("meets(1, 1)", x.meets(1, 1), -1);
        DUE.is("meets(2, 1)", x.meets(2, 1), -1);
        DUE.is("meets(3, 3) of ALL 1000", x.meets(3, 3), 1000000000000L);
        DUE.is("meets(5, 1)", x.meets(5, 1), 1000000000000L);
        DUE.is("meets(6, 1)", x.meets(6, 1), -1);
        DUE.is("meets(7, 1) of ALL 2000", x.meets(7, 1), -1);
        DUE.is("meets(8, 1)", x.meets(8, 1), -1);
        DUE.is("meets(-1, 1)", x.meets(-1, 1), -1);
    }

    private static void aparts() {
        DiceRing x = Due.told("die a 1 2 3 4 5 6;die b 0 2 2 2 5 5;let c = a + 3;let d = a;let e = 9;die f 1 1 2;die g 1 2;"
                + "die h 0 1 2 3 4 5 6 7 8 9;let i = 3 of (3 of h);let j = i - 60 - 60;");
        DUE.is("apart(0, 1)", x.apart(0, 1), 48);
        DUE.is("apart(1, 0)", x.apart(1, 0), 48);
        DUE.is("apart(0, 0)", x.apart(0, 0), 0);
        DUE.is("apart(0, 3)", x.apart(0, 3), 0);
        DUE.is("apart(0, 2)", x.apart(0, 2), 36);
        DUE.is("apart(0, 4)", x.apart(0, 4), 12);
        DUE.is("apart(5, 6)", x.apart(5, 6), 2);
        DUE.is("apart(8, 9) of nothing alike", x.apart(8, 9), 2000000000000000000L);
        DUE.is("apart(0, 10)", x.apart(0, 10), -1);
        DUE.is("apart(-1, 0)", x.apart(-1, 0), -1);
        DUE.is("apart(0, -1)", x.apart(0, -1), -1);
    }

    private static void shifts() {
        DiceRing x = Due.told("die a 1 2 2 5;die b 0 1 1 4;die c 1 4 4 5;die d 1 1 2 2 2 2 5 5;let e = 60+60+60+20;let f = -e;"
                + "let g = a + 60;die h 1 5 5 2;die i 1 2 2 6;die j 1 2 2 5 5;");
        DUE.is("shift(0, 1)", x.shift(0, 1), -1);
        DUE.is("shift(1, 0)", x.shift(1, 0), 1);
        DUE.is("shift(0, 0)", x.shift(0, 0), 0);
        DUE.is("shift(0, 2)", x.shift(0, 2), 1000);
        DUE.is("shift(0, 3), alike but twice as many", x.shift(0, 3), 1000);
        DUE.is("shift(4, 5)", x.shift(4, 5), -400);
        DUE.is("shift(5, 4)", x.shift(5, 4), 400);
        DUE.is("shift(0, 6)", x.shift(0, 6), 60);
        DUE.is("shift(0, 7)", x.shift(0, 7), 1000);
        DUE.is("shift(0, 8)", x.shift(0, 8), 1000);
        DUE.is("shift(8, 0)", x.shift(8, 0), 1000);
        DUE.is("shift(0, 9), unlike at the greatest number alone", x.shift(0, 9), 1000);
        DUE.isThrown("shift(0, 10)", () -> x.shift(0, 10));
        DUE.isThrown("shift(10, 0)", () -> x.shift(10, 0));
        DUE.isThrown("shift(-1, 0)", () -> x.shift(-1, 0));
        DUE.isThrown("shift(0, -1)", () -> x.shift(0, -1));
    }
}
