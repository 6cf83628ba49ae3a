/** Promises 10 to 17: against, beats, beaten, ring, ringAt, threes, top, anyTwo. */
public final class BeatTest {
    private static final Due DUE = new Due("BeatTest");
    private static final String THREE = "die a 2 4 9;die b 1 6 8;die c 3 5 7;";

    public static void main(String[] args) {
        once();
        severalThrows();
        tooManyWays();
        nets();
        rings();
        tops();
        twos();
        DUE.end();
    }

    private static void against(DiceRing x, int a, int b, int k, long greater, long less, long even) {
        String call = "against(" + a + ", " + b + ", " + k + ", ";
        DUE.is(call + "0)", x.against(a, b, k, 0), greater);
        DUE.is(call + "1)", x.against(a, b, k, 1), less);
        DUE.is(call + "2)", x.against(a, b, k, 2), even);
        DUE.is("beats(" + a + ", " + b + ", " + k + ")", x.beats(a, b, k), Long.compare(greater, less));
    }

    private static void once() {
        DiceRing x = Due.told(THREE + "die d 9 9 1;let e = -a;");
        against(x, 0, 1, 1, 5, 4, 0);
        against(x, 1, 0, 1, 4, 5, 0);
        against(x, 0, 0, 1, 3, 3, 3);
        against(x, 0, 3, 1, 3, 4, 2);
        against(x, 0, 4, 1, 9, 0, 0);
        against(x, 4, 0, 1, 0, 9, 0);
        for (int[] bad : new int[][] {{-1, 0, 1}, {0, -1, 1}, {5, 0, 1}, {0, 5, 1}, {0, 1, 0}, {0, 1, 5}, {0, 1, -1}}) {
            DUE.is("beats of none such", x.beats(bad[0], bad[1], bad[2]), -2);
            DUE.is("against of none such", x.against(bad[0], bad[1], bad[2], 0), -1);
        }
        DUE.is("against(0, 1, 1, 3)", x.against(0, 1, 1, 3), -1);
        DUE.is("against(0, 1, 1, -1)", x.against(0, 1, 1, -1), -1);
    }

    private static void severalThrows() {
        DiceRing x = Due.told(THREE + "die d 0 1;let e = 1;let f = 60+60+60+20;let g = -f;");
        against(x, 0, 1, 2, 37, 44, 0);
        against(x, 3, 4, 1, 0, 1, 1);
        against(x, 3, 3, 2, 5, 5, 6);
        against(x, 3, 3, 3, 22, 22, 20);
        against(x, 3, 3, 4, 93, 93, 70);
        against(x, 3, 4, 4, 0, 15, 1);
        against(x, 5, 6, 4, 1, 0, 0);
        against(x, 6, 5, 4, 0, 1, 0);
        against(x, 5, 5, 4, 0, 0, 1);
    }

    private static void tooManyWays() {
        DiceRing x = Due.told("die a 1 2 3 4 5 6 7 8 9 10;let b = 3 of a;let c = 3 of b;let d = b + 0;die e 1 2;"
                + "let f = b + more(e,1);let g = 4 of a + a;");
        DUE.is("beats(2, 2, 1)", x.beats(2, 2, 1), 0);
        DUE.is("beats(2, 2, 2)", x.beats(2, 2, 2), -2);
        DUE.is("beats(1, 3, 3)", x.beats(1, 3, 3), 0);
        DUE.is("beats(1, 3, 4)", x.beats(1, 3, 4), -2);
        DUE.is("beats(0, 5, 3)", x.beats(0, 5, 3), -2);
        DUE.is("beats(5, 0, 3)", x.beats(5, 0, 3), -2);
        DUE.is("beats(5, 0, 2)", x.beats(5, 0, 2), 1);
        DUE.is("beats(6, 6, 2)", x.beats(6, 6, 2), -2);
        DUE.is("against(5, 0, 3, 0)", x.against(5, 0, 3, 0), -1);
        DUE.is("against(0, 5, 3, 1)", x.against(0, 5, 3, 1), -1);
        long all = x.against(2, 2, 1, 0) + x.against(2, 2, 1, 1) + x.against(2, 2, 1, 2);
        DUE.is("all of 10^9 times 10^9", all, 1000000000000000000L);
    }

    private static void nets() {
        DiceRing x = Due.told(THREE + "let d = 9;let e = 9;let f = 0;");
        DUE.is("beaten(0)", x.beaten(0), 2 + 32);
        DUE.is("beaten(1)", x.beaten(1), 4 + 32);
        DUE.is("beaten(2)", x.beaten(2), 1 + 32);
        DUE.is("beaten(3)", x.beaten(3), 1 + 2 + 4 + 32);
        DUE.is("beaten(4)", x.beaten(4), 1 + 2 + 4 + 32);
        DUE.is("beaten(5)", x.beaten(5), 0);
        DUE.is("beaten(6)", x.beaten(6), -1);
        DUE.is("beaten(-1)", x.beaten(-1), -1);
        DUE.is("threes()", x.threes(), 1);
    }

    private static void ring(String text, int... want) {
        DiceRing x = Due.told(text);
        DUE.is("ring() of " + text, x.ring(), want.length);
        for (int i = 0; i < want.length; i++) {
            DUE.is("ringAt(" + i + ") of " + text, x.ringAt(i), want[i]);
        }
        DUE.is("ringAt(-1)", x.ringAt(-1), -1);
        DUE.is("ringAt(" + want.length + ")", x.ringAt(want.length), -1);
    }

    private static void rings() {
        ring(THREE, 0, 1, 2);
        ring("die b 1 6 8;die a 2 4 9;die c 3 5 7;", 0, 2, 1);
        ring("let z = 3;" + THREE, 1, 2, 3);
        // four of which each two that are not next to one another are even
        String four = "die a 1 5 8;die b 4 4 7;die c 3 4 8;die d 2 6 7;";
        ring(four, 0, 1, 2, 3);
        ring("die d 2 6 7;die b 4 4 7;die c 3 4 8;die a 1 5 8;", 0, 3, 1, 2);
        // of two of three the one with lesser numbers, and three before four
        ring(THREE + "die d 22 24 29;die e 21 26 28;die f 23 25 27;", 0, 1, 2);
        ring("die d 22 24 29;" + THREE + "die e 21 26 28;die f 23 25 27;", 0, 4, 5);
        ring(four + "die e 22 24 29;die f 21 26 28;die g 23 25 27;", 4, 5, 6);
        // Efron's dice are round in four, and in three too
        ring("die a 4 4 4 4 0 0;die b 3;die c 6 6 2 2 2 2;die d 5 5 5 1 1 1;", 0, 1, 2);
        // from the first one the lesser next NAME, where two ways round are as short
        ring("die a 2 4 9;die c 3 5 7;die x 3 5 7;die b 1 6 8;die y 1 6 8;", 0, 3, 1);
        DiceRing x = Due.told("let a = 1;let b = 2;let c = 3;let d = 3;");
        DUE.is("ring() of a row", x.ring(), -1);
        DUE.is("ringAt(0) ahead of any", x.ringAt(0), -1);
        DUE.is("threes() of a row", x.threes(), 0);
        Due.tell(x, THREE);
        DUE.is("ring()", x.ring(), 3);
        Due.tell(x, "let a = 1;");
        DUE.is("ring() of one", x.ring(), -1);
        DUE.is("ringAt(2) of the latest told", x.ringAt(2), 2);
        DiceRing y = Due.told(THREE + "die d 2 4 9;die e 1 6 8;die f 3 5 7;");
        DUE.is("threes() of each twice", y.threes(), 8);
    }

    private static void top(String text, int want) {
        DUE.is("top() of " + text, Due.told(text).top(), want);
    }

    private static void tops() {
        top("", 0);
        top("let a = 1;", 1);
        top("let a = 1;let b = 2;", 2);
        top("let a = 1;let b = 1;", 3);
        top("let a = 1;let b = 3;let c = 3;let d = 2;", 6);
        top(THREE, 7);
        top(THREE + "let d = 10;", 8);
        top(THREE + "let d = 0;", 7);
        top("let d = 0;" + THREE, 14);
        top(THREE + "die d 0 60;", 15);
        top("die a 4 4 4 4 0 0;die b 3;die c 6 6 2 2 2 2;die d 5 5 5 1 1 1;let e = 1;", 15);
    }

    private static void anyTwo(String text, int want) {
        DUE.is("anyTwo() of " + text, Due.told(text).anyTwo(), want);
    }

    private static void twos() {
        anyTwo("", -1);
        anyTwo("let a = 1;", -1);
        anyTwo("let a = 1;let b = 2;", 1);
        anyTwo("let a = 1;let b = 1;let c = 2;", 2);
        anyTwo("let a = 1;let b = 2;let c = 3;let d = 4;", 3);
        anyTwo(THREE, 1);
        anyTwo("let a = 5;let b = 1;let c = 2;let d = 6;let e = 3;", 3);
        anyTwo("let a = 1;let b = 2;let c = 9;let d = 9;", 2);
        anyTwo("let z = 0;" + THREE, 102);
        anyTwo("let y = 0;let z = 0;" + THREE, 203);
        // Oskar's dice: for each two of seven a third beats both
        String seven = "die a 2 2 14 14 17 17;die b 7 7 10 10 16 16;die c 5 5 13 13 15 15;die d 3 3 9 9 21 21;"
                + "die e 1 1 12 12 20 20;die f 6 6 8 8 19 19;die g 4 4 11 11 18 18;";
        anyTwo(seven, -1);
        anyTwo(seven + "let h = 0;", -1);
        anyTwo(seven + "let h = 30;", 7);
    }
}
