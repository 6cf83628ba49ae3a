/** Promises 4 and 5: the language of the TABLE, and its FAULTS. */
public final class TableTest {
    private static final Due DUE = new Due("TableTest");
    private static final String TWELVE =
            "let a=1;let b=1;let c=1;let d=1;let e=1;let f=1;let g=1;let h=1;let i=1;let j=1;let k=1;let l=1;";

    public static void main(String[] args) {
        goodTexts();
        senseless();
        badNumbers();
        badNames();
        tooMany();
        tooMuch();
        theFirstFaultAndTheLeast();
        longTexts();
        faultsLeaveTheTable();
        oneTableAfterAnother();
        DUE.end();
    }

    private static void good(String text, int names) {
        DiceRing x = new DiceRing();
        DUE.is("table() of " + text, Due.tell(x, text), names);
        DUE.is("fault() of " + text, x.fault(), 0);
        DUE.is("count(2) of " + text, x.count(2), 0);
    }

    private static void bad(String text, int kind, int place) {
        DiceRing x = new DiceRing();
        DUE.is("table() of " + text, Due.tell(x, text), -1 - place);
        DUE.is("fault() of " + text, x.fault(), kind);
        DUE.is("count(2) of " + text, x.count(2), 0);
        DUE.is("count(0) of " + text, x.count(0), 0);
    }

    private static void goodTexts() {
        good("", 0);
        good(" \n ", 0);
        good("die a 0;", 1);
        good("die a 60;", 1);
        good("die a 00 07;", 1);
        good("\n die\na 1 2 3 4 5 6 7 8 9 10 11 12 ; ", 1);
        good("die abcdef 1;let abcde=abcdef;", 2);
        good("let a=-1;let b=-a-a+a;let c=6 of(a);", 3);
        good("let a=high(1,2);let b=low(a,1)+more(a,a);", 2);
        good("let a=high ( 1 , low\n(2,-3)) - ( 4 ) ;", 1);
        good("let a=((((((((((1))))))))));", 1);
        good("let a=high(1,(((((((((1))))))))));", 1);
        good("let a=(1)+(2)+(3)+(4)+(5)+(6)+(7)+(8)+(9)+(1)+(2)+(3);", 1);
        good("let a=1 of 60;let b=6 of 33;", 2);
        good("let ofa=1;let dies=ofa;let highs=dies;", 3);
        good(TWELVE, 12);
    }

    private static void senseless() {
        bad("x", 1, 0);
        bad("die", 1, 3);
        bad("die ", 1, 4);
        bad("die a", 1, 5);
        bad("die a 3", 1, 7);
        bad("die a 3 \n", 1, 9);
        bad("die a;", 1, 5);
        bad("die a 3,4;", 1, 7);
        bad("die a b;", 1, 6);
        bad("die 3;", 1, 4);
        bad("die ;", 1, 4);
        bad("die die 3;", 1, 4);
        bad("die of 3;", 1, 4);
        bad("die high 3;", 1, 4);
        bad("die low 3;", 1, 4);
        bad("die more 3;", 1, 4);
        bad("let let = 3;", 1, 4);
        bad("dies a 3;", 1, 0);
        bad("Die a 3;", 1, 0);
        bad("die A 3;", 1, 4);
        bad("die a3 3;", 1, 4);
        bad("die a 3b;", 1, 6);
        bad("die a 123;", 1, 6);
        bad("die abcdefg 3;", 1, 4);
        bad("die a 3;;", 1, 8);
        bad("die a 3;3", 1, 8);
        bad("die a -3;", 1, 6);
        bad("die a 3.;", 1, 7);
        bad("die\ta 3;", 1, 3);
        bad("die a 3;\r\n", 1, 8);
        bad("let a 3;", 1, 6);
        bad("let a = ;", 1, 8);
        bad("let a =", 1, 7);
        bad("let a = = 3;", 1, 8);
        bad("let a = 3", 1, 9);
        bad("let a = 3 4;", 1, 10);
        bad("let a = 3 +;", 1, 11);
        bad("let a = + 3;", 1, 8);
        bad("let a = --3;", 1, 9);
        bad("let a = 3+-3;", 1, 10);
        bad("let a = 3 * 3;", 1, 10);
        bad("let a = 3.;", 1, 9);
        bad("let a = 3 of;", 1, 12);
        bad("let a = 3 of -3;", 1, 13);
        bad("let a = 3of 3;", 1, 8);
        bad("let a = 3 of 3 of 3;", 1, 15);
        bad("let a = (3) of 3;", 1, 12);
        bad("let a = of 3;", 1, 8);
        bad("let a = die;", 1, 8);
        bad("let a = let;", 1, 8);
        bad("let a = (3;", 1, 10);
        bad("let a = ();", 1, 9);
        bad("let a = 3);", 1, 9);
        bad("let a = (3,3);", 1, 10);
        bad("let a = high 3;", 1, 13);
        bad("let a = high(3);", 1, 14);
        bad("let a = high(3,);", 1, 15);
        bad("let a = high(3,3,3);", 1, 16);
        bad("let a = high(3 3);", 1, 15);
        bad("let a = low(3,3;", 1, 15);
        bad("let a = more,3;", 1, 12);
        bad("die a 3;let b = a a;", 1, 18);
    }

    private static void badNumbers() {
        bad("die a 61;", 2, 6);
        bad("die a 1 2 99;", 2, 10);
        bad("let a = 61;", 2, 8);
        bad("let a = 0 of 3;", 2, 8);
        bad("let a = 7 of 3;", 2, 8);
        bad("let a = 61 of 3;", 2, 8);
        bad("let a = 7 of", 2, 8);
        bad("let a = 3 of 61;", 2, 13);
        bad("let a = 1 + (2 - 61);", 2, 17);
        bad("let a = high(1,7 of 1);", 2, 15);
        bad("let a = 61 61;", 2, 8);
        bad("let a = 61", 2, 8);
    }

    private static void badNames() {
        bad("die a 3;die a 4;", 3, 12);
        bad("die a 3;let a = 4;", 3, 12);
        bad("let ab = 3;let ba = 4;let ab = 5;", 3, 26);
        bad("let a = b;", 3, 8);
        bad("let a = a;", 3, 8);
        bad("let a = b;let b = 1;", 3, 8);
        bad("let a = 3 of b;", 3, 13);
        bad("die abc 1;let d = ab;", 3, 18);
        bad("die a 1;let d = aa;", 3, 16);
    }

    private static void tooMany() {
        bad("die a 1 2 3 4 5 6 7 8 9 10 11 12 13;", 4, 33);
        bad(TWELVE + "let m=1;", 4, 96);
        bad(TWELVE + " die m 1;", 4, 97);
        bad(TWELVE + "let a=1;", 4, 96);
        bad(TWELVE + "m", 1, 96);
        bad(TWELVE.replace(";let l=1;", ";let k=1;"), 3, 92);
        bad("let a = (((((((((((1)))))))))));", 4, 18);
        bad("let a = ((((((((((high(1,1)))))))))));", 4, 22);
        bad("let a = high(((((((((((1,1)))))))))));", 4, 22);
        bad("let a = low(1,((((((((((1)))))))))));", 4, 23);
    }

    private static void tooMuch() {
        bad("let a = 60+60+60+60-60;", 5, 22);
        good("let a = 60+60+60-60+60+20;", 1);
        good("let a = 60+60+60+20;", 1);
        bad("let a = 60+60+60+21 ;", 5, 20);
        good("let a = -60-60-60-20;", 1);
        bad("let a = -60-60-60-21;", 5, 20);
        good("let a = 5 of 40;", 1);
        bad("let a = 5 of 41;", 5, 15);
        bad("let a = 4 of 60 - 60;", 5, 20);
        bad("let a = high(4 of 60,1);", 5, 23);
        bad("let a = more(1,4 of 60);", 5, 23);
        bad("let a = 60 - (-60-60-60);", 5, 24);
        String die = "die a 1 2 3 4 5 6 7 8 9 10;";
        good(die + "let b = 3 of (3 of a);", 2);
        bad(die + "let b = 3 of (3 of a)+a+1;", 5, die.length() + 25);
        bad(die + "let b = 3 of(3 of a)+0-0+high(a,1)-more(1,a);", 5, die.length() + 44);
        good(die + "let b = low(3 of(2 of a),3 of a)+0;", 2);
        good(die + "let b = 6 of a;let c = high(b,3 of a);", 3);
        bad(die + "let b = 6 of a;let c = high(b,4 of a);", 5, die.length() + 37);
        bad(die + "let b = 6 of a;let c = low(4 of a,b)-0;", 5, die.length() + 38);
        bad(die + "let b = 6 of a;let c = more(4 of a,b);", 5, die.length() + 37);
        bad(die + "let b = 5 of a;let c = a+a+a+a-b-b;", 5, die.length() + 34);
        // what is too much has its FAULT at the ; alone, and a FAULT ahead of that comes first
        bad("let a = 4 of 60 + ;", 1, 18);
        bad("let a = 4 of 60", 1, 15);
        bad("let a = 4 of 60 + b;", 3, 18);
        bad("let a = 4 of 60 4;", 1, 16);
    }

    private static void theFirstFaultAndTheLeast() {
        bad("die a 1 2 3 4 5 6 7 8 9 10 11 12 61;", 2, 33);
        bad("die a 61 Q;", 2, 6);
        bad("let a = 3 (((((((((((1);", 1, 10);
        bad("let a = b Q", 3, 8);
        bad("die a 3;die a 99;", 3, 12);
        bad("let a = 4 of 60;let b = Q;", 5, 15);
    }

    /** A text whose latter part begins at a told place, behind blanks. */
    private static String apart(String first, int place, String latter) {
        return first + " ".repeat(place - first.length()) + latter;
    }

    private static void longTexts() {
        String line = "die a 3;";
        good(apart(line, 500, ""), 1);
        bad(apart(line, 501, ""), 1, 500);
        bad(apart(line, 540, ""), 1, 500);
        bad(apart(line, 501, "Q"), 1, 500);
        bad(apart("Q", 510, ""), 1, 0);
        good(apart("let a = 3", 499, ";"), 1);
        bad(apart("let a = 3", 499, ";\n"), 1, 500);
        bad(apart("die a 3", 500, ";"), 1, 500);
        bad(apart("let a = 4 of 60", 499, ";die b 3;"), 5, 499);
        // a TOKEN that begins ahead of 500 is read whole
        bad(apart(line, 495, "die  b 3;"), 1, 500);
        bad(apart(line, 498, "died"), 1, 498);
        bad(apart(line, 498, "dieeeeee"), 1, 498);
        bad(apart(line, 498, "die a"), 1, 500);
        bad(apart(line, 495, "die a 3"), 3, 499);
        bad(apart(line, 495, "die abcdef 3;"), 1, 500);
        bad(apart(line, 495, "die abcdefg 3;"), 1, 499);
        bad(apart("die a ", 499, "61;"), 2, 499);
        bad(apart("die a ", 499, "11;"), 1, 500);
        bad(apart("die a ", 499, "111;"), 1, 499);
        // and one behind is not looked at: 7 is told well as long as no 'of' comes
        bad(apart("let a = ", 499, "7 of 3;"), 1, 500);
        bad(apart("let a = ", 497, "7 of 3;"), 2, 497);
    }

    private static void faultsLeaveTheTable() {
        DiceRing x = Due.told("die a 1 2;die b 5;");
        DUE.is("table() with a FAULT", Due.tell(x, "die c 7 8 9;die d 61;"), -19);
        DUE.is("fault()", x.fault(), 2);
        DUE.is("count(0)", x.count(0), 2);
        DUE.is("ways(0, 2)", x.ways(0, 2), 1);
        DUE.is("all(0)", x.all(0), 2);
        DUE.is("beaten(1)", x.beaten(1), 1);
        DUE.is("table()", Due.tell(x, "die c 7 8 9;"), 1);
        DUE.is("fault() then", x.fault(), 0);
        DUE.is("all(0) then", x.all(0), 3);
        DUE.is("all(1) then", x.all(1), -1);
        DUE.is("beaten(1) then", x.beaten(1), -1);
        DUE.is("table() of an empty tape", x.table(), 0);
        DUE.is("count(0) then", x.count(0), 0);
    }

    /** What one text left half done is of no weight for the next. */
    private static void oneTableAfterAnother() {
        DiceRing x = new DiceRing();
        for (int i = 0; i < 8; i++) {
            DUE.is("table() of twelve", Due.tell(x, TWELVE), 12);
            DUE.is("table() of TOO MUCH", Due.tell(x, "let a = 1;let b = 6 of 60;"), -26);
            DUE.is("table() cut off", Due.tell(x, "let a = high(1,(2+(3"), -21);
        }
        DUE.is("table() then", Due.tell(x, "let a = 1 + 2 of 3;"), 1);
        DUE.is("ways(0, 7)", x.ways(0, 7), 1);
    }
}
