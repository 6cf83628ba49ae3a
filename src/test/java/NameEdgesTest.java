/** Sentence by sentence, what the document says of WAYS, TOO MUCH, MEAN and SPREAD: promises 4 to 9. */
public final class NameEdgesTest {
    private static final Due DUE = new Due("NameEdgesTest");

    public static void main(String[] args) {
        ways();
        thrownApart();
        highLowMore();
        takenAway();
        tooManyWays();
        tooFarNumbers();
        partByPart();
        about();
        noSuchNames();
        means();
        spreads();
        DUE.end();
    }

    private static void good(String text, int names) {
        DiceRing x = new DiceRing();
        DUE.is("table() of " + text, Due.tell(x, text), names);
        DUE.is("fault() of " + text, x.fault(), 0);
    }

    /** TOO MUCH has its place at the last ; of the text. */
    private static void tooMuch(String text) {
        DiceRing x = new DiceRing();
        DUE.is("table() of " + text, Due.tell(x, text), -1 - text.lastIndexOf(';'));
        DUE.is("fault() of " + text, x.fault(), 5);
    }

    /** The WAYS of all numbers from -210 to 210; those from one on are told, the others have none. */
    private static void hasWays(String text, int k, int from, long... want) {
        DiceRing x = Due.told(text);
        long all = 0;
        for (long many : want) {
            all += many;
        }
        DUE.is("all(" + k + ")", x.all(k), all);
        for (int n = -210; n <= 210; n++) {
            int i = n - from;
            DUE.is("ways(" + k + ", " + n + ")", x.ways(k, n), i >= 0 && i < want.length ? want[i] : 0);
        }
        for (int n : new int[] {Integer.MIN_VALUE, -1000, 1000, Integer.MAX_VALUE}) {
            DUE.is("ways(" + k + ", " + n + ")", x.ways(k, n), 0);
        }
        DUE.is("about(" + k + ", 1)", x.about(k, 1), from);
        DUE.is("about(" + k + ", 2)", x.about(k, 2), from + want.length - 1);
    }

    private static void ways() {
        DUE.sentence("Each NAME has WAYS: of each number, how many; ALL of them together. A die: each FACE one WAY. A NUMBER: one WAY.");
        String x = "die a 3 1 3;die b 0;die c 60;die d 5 5 5 5 5 5 5 5 5 5 5 5;let e=0;let f=60;let g=a;let h=(g);";
        hasWays(x, 0, 1, 1, 0, 2);
        hasWays(x, 1, 0, 1);
        hasWays(x, 2, 60, 1);
        hasWays(x, 3, 5, 12);
        hasWays(x, 4, 0, 1);
        hasWays(x, 5, 60, 1);
        hasWays(x, 6, 1, 1, 0, 2);
        hasWays(x, 7, 1, 1, 0, 2);
    }

    private static void thrownApart() {
        DUE.sentence("What stands in a SUM is thrown apart each time it stands there: ALL are multiplied.");
        String x = "die a 0 1 1;let b=a+a;let c=a-a;let d=high(a,a);let e=low(a,a);let f=more(a,a);let g=3 of a;"
                + "let h=a+1;let i=1 of a;let j=b+b;let k=b-2 of b;";
        hasWays(x, 1, 0, 1, 4, 4);
        hasWays(x, 2, -1, 2, 5, 2);
        hasWays(x, 3, 0, 1, 8);
        hasWays(x, 4, 0, 5, 4);
        hasWays(x, 5, 0, 7, 2);
        hasWays(x, 6, 0, 1, 6, 12, 8);
        hasWays(x, 7, 1, 1, 2);
        hasWays(x, 8, 0, 1, 2);
        hasWays(x, 9, 0, 1, 8, 24, 32, 16);
        DUE.is("all(10)", Due.told(x).all(10), 729);
    }

    private static void highLowMore() {
        DUE.sentence("high, low: the greater, the lesser of two; more: 1, if the first is greater, else 0.");
        String x = "let a=high(2,3);let b=low(2,3);let c=more(3,2);let d=more(2,3);let e=more(3,3);let f=high(3,3);"
                + "let g=low(3,3);let h=high(-3,-2);let i=low(-3,-2);let j=more(-2,-3);let k=more(0,0);";
        int[] want = {3, 2, 1, 0, 0, 3, 3, -2, -3, 1, 0};
        for (int k = 0; k < want.length; k++) {
            hasWays(x, k, want[k], 1);
        }
        String y = "die a 1 4;die b 2 3;let c=high(a,b);let d=low(a,b);let e=more(a,b);let f=more(b,a);"
                + "let g=high(b,a);let h=low(b,a);let i=more(a,0);let j=more(a,1);let k=more(a,3);let l=more(a,4);";
        hasWays(y, 2, 2, 1, 1, 2);
        hasWays(y, 3, 1, 2, 1, 1);
        hasWays(y, 4, 0, 2, 2);
        hasWays(y, 5, 0, 2, 2);
        hasWays(y, 6, 2, 1, 1, 2);
        hasWays(y, 7, 1, 2, 1, 1);
        hasWays(y, 8, 1, 2);
        hasWays(y, 9, 0, 1, 1);
        hasWays(y, 10, 0, 1, 1);
        hasWays(y, 11, 0, 2);
    }

    private static void takenAway() {
        DUE.sentence("- : taken away.");
        String x = "die a 1 3;let b=-a;let c=5-a;let d=-a-a;let e=-(a-5);let f=-2 of a;let g=-a+5;let h=0-(-(-a));";
        hasWays(x, 1, -3, 1, 0, 1);
        hasWays(x, 2, 2, 1, 0, 1);
        hasWays(x, 3, -6, 1, 0, 2, 0, 1);
        hasWays(x, 4, 2, 1, 0, 1);
        hasWays(x, 5, -6, 1, 0, 2, 0, 1);
        hasWays(x, 6, 2, 1, 0, 1);
        hasWays(x, 7, -3, 1, 0, 1);
    }

    /** Dice whose FACES are all 0: only how many WAYS there are can be too much of them. */
    private static String zeros(int... faces) {
        StringBuilder text = new StringBuilder();
        for (int i = 0; i < faces.length; i++) {
            text.append("die ").append((char) ('a' + i)).append(" 0".repeat(faces[i])).append(';');
        }
        return text.toString();
    }

    private static void tooManyWays() {
        DUE.sentence("TOO MUCH: ALL above 1000000000,");
        String ten = zeros(10);
        good(ten + "let x=3 of(3 of a);", 2);
        DUE.is("all(1)", Due.told(ten + "let x=3 of(3 of a);").all(1), 1000000000);
        tooMuch(ten + "let x=3 of(3 of a)+a;");
        // 12 12 10 9 9 7 7 7 5 5 multiplied are 1000188000, the least of FACES multiplied that is above
        String dice = zeros(12, 10, 9, 7, 5);
        good(dice + "let x=2 of a+2 of c+3 of d+2 of e;", 6);
        tooMuch(dice + "let x=2 of a+2 of c+3 of d+2 of e+b;");
        tooMuch(dice + "let x=b-2 of a-2 of c-3 of d-2 of e;");
        tooMuch(dice + "let x=high(2 of a+2 of c+3 of d,2 of e+b);");
        tooMuch(dice + "let x=low(2 of a+2 of c+3 of d,2 of e+b);");
        tooMuch(dice + "let x=more(2 of a+2 of c+3 of d,2 of e+b);");
        good(ten + "let x=4 of a;let y=high(x,x+a);let z=low(x,x+a);let w=more(x,x+a);let v=x-(x+a);", 6);
        tooMuch(ten + "let x=5 of a;let y=high(x,x);");
        tooMuch(ten + "let x=5 of a;let y=low(x,x);");
        tooMuch(ten + "let x=5 of a;let y=more(x,x);");
        tooMuch(ten + "let x=5 of a;let y=x-x;");
        tooMuch(ten + "let x=5 of a;let y=2 of x;");
        // 31 500 and 31 680 (12 11 10 12 2) thrown twice; 1000 and 1008 three times
        String more = zeros(12, 11, 10, 2, 5, 7, 3);
        good(more + "let x=a+e+g+e+f+e;let y=2 of x;", 9);
        tooMuch(more + "let x=a+b+c+a+d;let y=2 of x;");
        good(ten + "let x=3 of a;let y=3 of x;", 3);
        tooMuch(zeros(12, 7) + "let x=2 of a+b;let y=3 of x;");
        good(zeros(7) + "let x=5 of (2 of a);", 2);
        tooMuch(zeros(8) + "let x=5 of (2 of a);");
        good(zeros(5) + "let x=6 of (2 of a);", 2);
        tooMuch(zeros(6) + "let x=6 of (2 of a);");
    }

    private static void tooFarNumbers() {
        DUE.sentence("or a number beyond -200 .. 200, of any part as it is reckoned");
        good("let a=60+60+60+20;", 1);
        tooMuch("let a=60+60+60+21;");
        good("let a=-60-60-60-20;", 1);
        tooMuch("let a=-60-60-60-21;");
        good("let a=5 of 40;let b=4 of 50;let c=6 of 33;let d=-5 of 40;let e=3 of 60;", 5);
        tooMuch("let a=5 of 41;");
        tooMuch("let a=4 of 51;");
        tooMuch("let a=6 of 34;");
        tooMuch("let a=6 of(-34);");
        tooMuch("let a=-6 of 34;");
        good("let a=2 of(60+40);let b=2 of(-60-40);", 2);
        tooMuch("let a=2 of(60+41);");
        tooMuch("let a=2 of(-60-41);");
        good("let a=5 of 40;let b=a-0;let c=-a;let d=high(a,-a);let e=low(a,c);let f=a-a;let g=-c;let h=0-a;", 8);
        tooMuch("let a=5 of 40;let b=a+1;");
        tooMuch("let a=5 of 40;let b=-a-1;");
        tooMuch("let a=5 of 40;let b=1+a;");
        tooMuch("let a=5 of 40;let b=a-(-1);");
        tooMuch("let a=5 of 40;let b=-1-a;");
        // one number that is beyond is enough, at either end
        good("let a=5 of 40;die b 0 1;let c=a-b;let d=b-a;", 4);
        tooMuch("let a=5 of 40;die b 0 1;let c=a+b;");
        tooMuch("let a=5 of 40;die b 0 1;let c=-a-b;");
        tooMuch("die b 40 41;let a=5 of b;");
        tooMuch("die b 40 41;let a=-5 of b;");
        tooMuch("die b 0 60;let a=4 of b;");
        good("die b 0 50;let a=4 of b;let c=-a;", 3);
        DiceRing x = Due.told("die b 0 50;let a=4 of b;let c=-a;");
        DUE.is("ways(1, 200)", x.ways(1, 200), 1);
        DUE.is("ways(2, -200)", x.ways(2, -200), 1);
    }

    private static void partByPart() {
        DUE.sentence("(from the left; of 'of' each time one more is added).");
        tooMuch("let a=60+60+60+60-60;");
        good("let a=60-60+60+60+60;", 1);
        tooMuch("let a=-60-60-60-60+60;");
        good("let a=-60+60-60-60-60;", 1);
        good("let a=60+60+60+(60-60);", 1);
        tooMuch("let a=0+(60+60+60+60-60);");
        tooMuch("let a=0-(60+60+60+60);");
        tooMuch("let a=1-(-(60+60+60+21));");
        tooMuch("let a=4 of 60-60;");
        tooMuch("let a=60-60+4 of 60;");
        tooMuch("let a=-4 of 60+60;");
        // what is taken of two later on does not help
        tooMuch("let a=high(4 of 60,1);");
        tooMuch("let a=high(1,4 of 60);");
        tooMuch("let a=low(4 of 60,1);");
        tooMuch("let a=low(1,4 of 60);");
        tooMuch("let a=more(4 of 60,1);");
        tooMuch("let a=more(1,4 of 60);");
        tooMuch("let a=more(1,-4 of 60);");
        tooMuch("let a=1 of(4 of 60);");
        good("let a=more(4 of 50,-4 of 50)+4 of 49;", 1);
        String ten = "die a 1 2 3 4 5 6 7 8 9 10;";
        tooMuch(ten + "let b=more(5 of a,5 of a);");
        tooMuch(ten + "let b=more(6 of a,1)+more(4 of a,1);");
        good(ten + "let b=more(6 of a,1)+more(3 of a,1);", 2);
        DUE.sentence("5 a LINE that is too much (at its ; ).");
        int fault = Due.tell(new DiceRing(), "let a=4 of 60  ;let b=5 of 60;");
        DUE.is("table() of two such LINES", fault, -16);
        fault = Due.tell(new DiceRing(), "let a=4 of 50;let b=5 of 60;let c=b;");
        DUE.is("table() of the second LINE", fault, -28);
        fault = Due.tell(new DiceRing(), "let a=4 of 60+1-2+high(1,2)+3 of(4-5);");
        DUE.is("table() of a LINE that goes on", fault, -38);
    }

    private static void about() {
        DUE.sentence("FACES of NAME k, if it is a die (what 0, else 0); its least number (1), its greatest one (2).");
        DiceRing x = Due.told("die a 7;die b 60 0 1 2 3 4 5 6 7 8 9 10;let c=a;let d=-4 of 50;"
                + "let e=4 of 50;let f=d+b;let g=more(b,b);let h=0;let i=high(a,b)-low(a,b);");
        int[][] want = {{1, 7, 7}, {12, 0, 60}, {0, 7, 7}, {0, -200, -200}, {0, 200, 200}, {0, -200, -140}, {0, 0, 1}, {0, 0, 0},
            {0, 0, 60}};
        for (int k = 0; k < want.length; k++) {
            for (int what = 0; what < 3; what++) {
                DUE.is("about(" + k + ", " + what + ")", x.about(k, what), want[k][what]);
            }
        }
    }

    private static void noSuchNames() {
        DiceRing x = Due.told("die a 1;let b=2;");
        DiceRing twelve = Due.told("let a=1;let b=1;let c=1;let d=1;let e=1;let f=1;let g=1;let h=1;let i=1;let j=1;let k=1;let l=1;");
        DiceRing none = new DiceRing();
        DUE.sentence("ALL of NAME k; NONE: no such one.");
        DUE.is("all(1)", x.all(1), 1);
        DUE.is("all(2)", x.all(2), -1);
        DUE.is("all(-1)", x.all(-1), -1);
        DUE.is("all(11)", twelve.all(11), 1);
        DUE.is("all(12)", twelve.all(12), -1);
        DUE.is("all(0)", none.all(0), -1);
        DUE.sentence("WAYS of a number of NAME k; NONE: no such NAME.");
        DUE.is("ways(1, 2)", x.ways(1, 2), 1);
        DUE.is("ways(2, 2)", x.ways(2, 2), -1);
        DUE.is("ways(-1, 2)", x.ways(-1, 2), -1);
        DUE.is("ways(11, 1)", twelve.ways(11, 1), 1);
        DUE.is("ways(12, 1)", twelve.ways(12, 1), -1);
        DUE.is("ways(0, 0)", none.ways(0, 0), -1);
        DUE.sentence("NoSuchElementException: no such one, another what.");
        for (int what = 0; what < 3; what++) {
            int asked = what;
            DUE.is("about(11, " + what + ")", twelve.about(11, what), what == 0 ? 0 : 1);
            DUE.isThrown("about(12, " + what + ")", () -> twelve.about(12, asked));
            DUE.isThrown("about(2, " + what + ")", () -> x.about(2, asked));
            DUE.isThrown("about(-1, " + what + ")", () -> x.about(-1, asked));
            DUE.isThrown("about(0, " + what + ")", () -> none.about(0, asked));
        }
        for (int what : new int[] {-1, 3, Integer.MIN_VALUE, Integer.MAX_VALUE}) {
            DUE.isThrown("about(0, " + what + ")", () -> x.about(0, what));
            DUE.isThrown("about(1, " + what + ")", () -> x.about(1, what));
        }
        DUE.sentence("NoSuchElementException: no such one (or one without a SPREAD), another what.");
        for (int what = 0; what < 4; what++) {
            int asked = what;
            DUE.is("mean(11, " + what + ")", twelve.mean(11, what), what == 2 ? 0 : 1);
            DUE.isThrown("mean(12, " + what + ")", () -> twelve.mean(12, asked));
            DUE.isThrown("mean(2, " + what + ")", () -> x.mean(2, asked));
            DUE.isThrown("mean(-1, " + what + ")", () -> x.mean(-1, asked));
            DUE.isThrown("mean(0, " + what + ")", () -> none.mean(0, asked));
        }
        for (int what : new int[] {-1, 4, Integer.MIN_VALUE, Integer.MAX_VALUE}) {
            DUE.isThrown("mean(0, " + what + ")", () -> x.mean(0, what));
        }
    }

    private static void hasMean(String text, int k, long... want) {
        DiceRing x = Due.told(text);
        for (int what = 0; what < want.length; what++) {
            DUE.is("mean(" + k + ", " + what + ") of " + text, x.mean(k, what), want[what]);
        }
    }

    private static void means() {
        DUE.sentence("MEAN of NAME k (what 0 the upper number, 1 the lower one), SPREAD (2, 3).");
        hasMean("die a 1 2 4;", 0, 7, 3, 14, 9);
        hasMean("die a 0 0 0 1;", 0, 1, 4, 3, 16);
        DUE.sentence("MEAN: numbers times WAYS, added, by ALL;");
        hasMean("die a 0 0 6;", 0, 2, 1);
        hasMean("let a=-4 of 50;", 0, -200, 1);
        hasMean("let a=4 of 50;", 0, 200, 1);
        hasMean("die a 1 2;let b=-a;", 1, -3, 2);
        // the most WAYS of the greatest numbers
        String far = "die a 20 20 20 20 20 20 20 20 20 20;let b=3 of(3 of a);let c=-b;";
        hasMean(far, 1, 180, 1);
        hasMean(far, 2, -180, 1);
        DUE.sentence("both in least numbers.");
        hasMean("die a 2 4;", 0, 3, 1, 1, 1);
        hasMean("die a 1 1 3 3;", 0, 2, 1, 1, 1);
        hasMean("die a 1 2 3 4;", 0, 5, 2, 5, 4);
        hasMean("die a 0;", 0, 0, 1, 0, 1);
        hasMean("die a 0 0 0;", 0, 0, 1, 0, 1);
        hasMean("die a 5 5 5;", 0, 5, 1, 0, 1);
        hasMean("die a 1 3;let b=a-2;", 1, 0, 1, 1, 1);
        hasMean("die a 1 3;let b=a-4;", 1, -2, 1, 1, 1);
    }

    private static void spreads() {
        DUE.sentence("SPREAD, where ALL are 1000000 at most:");
        String ten = "die a 1 2 3 4 5 6 7 8 9 10;let b=6 of a;";
        hasMean(ten, 1, 33, 1, 99, 2);
        DUE.sentence("squares of numbers times WAYS by ALL, less the square of the MEAN;");
        hasMean("die a 0 60;let b=3 of a;let c=-b;", 1, 90, 1, 2700, 1);
        hasMean("die a 0 60;let b=3 of a;let c=-b;", 2, -90, 1, 2700, 1);
        hasMean("die a 2 2 2 5;", 0, 11, 4, 27, 16);
        // the greatest there are: 10 WAYS of 33 or none, six times
        hasMean("die a 33 33 33 33 33 0 0 0 0 0;let b=6 of a;", 1, 99, 1, 3267, 2);
        hasMean("die a 1 1 1 1 1 1 1 1 1 0;let b=6 of a;", 1, 27, 5, 27, 50);
        DUE.sentence("(or one without a SPREAD)");
        // 12 9 9 7 7 7 3 multiplied are 1000188, the least of FACES multiplied that is above
        String above = zeros(12, 9, 7, 3) + "let x=a+2 of b+3 of c+d;";
        DiceRing x = Due.told(above);
        DUE.is("all(4)", x.all(4), 1000188);
        DUE.is("mean(4, 0)", x.mean(4, 0), 0);
        DUE.is("mean(4, 1)", x.mean(4, 1), 1);
        DUE.isThrown("mean(4, 2)", () -> x.mean(4, 2));
        DUE.isThrown("mean(4, 3)", () -> x.mean(4, 3));
        DUE.is("mean(3, 2)", x.mean(3, 2), 0);
        DiceRing most = Due.told("die a 1 2 3 4 5 6 7 8 9 10;let b=6 of a;let c=3 of(3 of a);");
        DUE.is("mean(1, 3) of 1000000 WAYS", most.mean(1, 3), 2);
        DUE.is("mean(2, 0) of 1000000000 WAYS", most.mean(2, 0), 99);
        DUE.is("mean(2, 1) of 1000000000 WAYS", most.mean(2, 1), 2);
        DUE.isThrown("mean(2, 2)", () -> most.mean(2, 2));
        DUE.isThrown("mean(2, 3)", () -> most.mean(2, 3));
    }
}
