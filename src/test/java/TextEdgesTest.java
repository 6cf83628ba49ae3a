/** Sentence by sentence, what the document says of a TABLE's text, its FAULTS and their places: promises 4, 5. */
public final class TextEdgesTest {
    private static final Due DUE = new Due("TextEdgesTest");
    private static final String[] OWN = {"die", "let", "of", "high", "low", "more"};

    public static void main(String[] args) {
        blanks();
        words();
        numbers();
        runsOfSigns();
        signs();
        theSinglePoint();
        lines();
        facesOfADie();
        sums();
        terms();
        units();
        names();
        ownWords();
        twelveNames();
        noTokenOrCannotCome();
        theEnd();
        fiveHundredBytes();
        readWhole();
        aNumberNotAsTold();
        aNameNotAsTold();
        tooManyOfThem();
        tenOpenAtOnce();
        theFirstAlongTheText();
        ofOneTokenTheLeast();
        theKindOfTheLatest();
        DUE.end();
    }

    private static void good(String text, int names) {
        DiceRing x = new DiceRing();
        DUE.is("table() of " + text, Due.tell(x, text), names);
        DUE.is("fault() of " + text, x.fault(), 0);
        DUE.is("count(0) of " + text, x.count(0), names);
    }

    private static void bad(String text, int kind, int place) {
        DiceRing x = Due.told("let old = 5;");
        DUE.is("table() of " + text, Due.tell(x, text), -1 - place);
        DUE.is("fault() of " + text, x.fault(), kind);
        DUE.is("count(0) of " + text, x.count(0), 1);
        DUE.is("ways(0, 5) after " + text, x.ways(0, 5), 1);
    }

    private static boolean isBlank(char sign) {
        return sign == 32 || sign == 10;
    }

    private static boolean isLetter(char sign) {
        return "abcdefghijklmnopqrstuvwxyz".indexOf(sign) >= 0;
    }

    private static boolean isDigit(char sign) {
        return "0123456789".indexOf(sign) >= 0;
    }

    private static void blanks() {
        DUE.sentence("TOKENS, with blanks (32, 10) between them or not:");
        good("die a 3;let b=high(a,2 of a)-(4);", 2);
        good(" die\na  3\n;\n\nlet b = high \n( a , 2 of\na ) - ( 4 ) ; ", 2);
        good("\ndie a 3;", 1);
        good("let\na\n=\n3\n;\n", 1);
        good("die a 1 2\n3;", 1);
        good("die a 12;", 1);
        for (int value = 0; value < 256; value++) {
            char sign = (char) value;
            String text = "die a 3 " + sign + " 4;";
            if (isBlank(sign) || isDigit(sign)) {
                good(text, 1);
            } else {
                bad(text, 1, sign == ';' ? 10 : 8);
            }
            String ahead = sign + "die a 3;";
            if (isBlank(sign)) {
                good(ahead, 1);
            } else {
                bad(ahead, 1, 0);
            }
        }
    }

    private static void words() {
        DUE.sentence("WORDS: small letters, 1 to 6;");
        good("die a 3;let z=a;", 2);
        good("die abcdef 3;let z=abcdef;", 2);
        bad("die abcdefg 3;", 1, 4);
        bad("abcdefghijk", 1, 0);
        bad("die Abc 3;", 1, 4);
        bad("die aBc 3;", 1, 5);
        bad("die abC 3;", 1, 6);
        // each letter at each place makes another WORD
        for (int place = 0; place < 6; place++) {
            for (char letter = 'a'; letter <= 'z'; letter++) {
                String word = "mmmmmm".substring(0, place) + letter + "mmmmmm".substring(place + 1);
                String text = "die mmmmmm 1;die " + word + " 2;let x=" + word + ";";
                if (letter == 'm') {
                    bad(text, 3, 17);
                } else {
                    DUE.is("ways(2, 2) of " + text, Due.told(text).ways(2, 2), 1);
                }
            }
        }
        String lengths = "die a 1;die aa 2;die aaa 3;die aaaa 4;die aaaaa 5;die aaaaaa 6;let x=aaaaaa-aaaa-a;let y=aaaaa-aaa-aa;";
        DUE.is("ways(6, 1)", Due.told(lengths).ways(6, 1), 1);
        DUE.is("ways(7, 0)", Due.told(lengths).ways(7, 0), 1);
    }

    private static void numbers() {
        DUE.sentence("NUMBERS: 1 or 2 digits;");
        for (int number = 0; number <= 60; number++) {
            DiceRing x = Due.told("die a " + number + ";let b=" + number + ";");
            DUE.is("ways(0, " + number + ")", x.ways(0, number), 1);
            DUE.is("ways(1, " + number + ")", x.ways(1, number), 1);
        }
        DUE.is("ways(0, 0) of 00", Due.told("die a 00;").ways(0, 0), 1);
        DUE.is("ways(0, 9) of 09", Due.told("die a 09;").ways(0, 9), 1);
        bad("die a 000;", 1, 6);
        bad("die a 012;", 1, 6);
        bad("die a 100;", 1, 6);
        bad("let a=003;", 1, 6);
        bad("let a=1 of 0001;", 1, 11);
        bad("let a=001 of 1;", 1, 6);
        good("let a=01 of 01;", 1);
    }

    private static void runsOfSigns() {
        DUE.sentence("A WORD, NUMBER goes on as long as small letters and digits do; what is not as told is no TOKEN;");
        bad("die a3;", 1, 4);
        bad("die a3 3;", 1, 4);
        bad("die 3a 3;", 1, 4);
        bad("die a 3a;", 1, 6);
        bad("die a 3 a4;", 1, 8);
        bad("diea 3;", 1, 0);
        bad("die a 3;dieb 3;", 1, 8);
        bad("let a=3of 3;", 1, 6);
        bad("let a=3 of3;", 1, 8);
        bad("let a=3 ofa;", 1, 8);
        bad("let a=high3(1,2);", 1, 6);
        // what stands right beside the letters and the digits does not go on with them
        for (int value = 0; value < 256; value++) {
            char sign = (char) value;
            behindAWord(sign);
            behindANumber(sign);
            behindASum(sign);
        }
    }

    private static void behindAWord(char sign) {
        String text = "die a" + sign + "3;";
        if (isBlank(sign)) {
            good(text, 1);
        } else {
            bad(text, 1, isLetter(sign) || isDigit(sign) ? 4 : 5);
        }
    }

    private static void behindANumber(char sign) {
        String text = "die a 3" + sign + ";";
        if (isBlank(sign) || isDigit(sign)) {
            good(text, 1);
        } else {
            bad(text, 1, isLetter(sign) ? 6 : sign == ';' ? 8 : 7);
        }
    }

    private static void behindASum(char sign) {
        String text = "let a=3" + sign + "3;";
        if (sign == '+' || sign == '-') {
            good(text, 1);
        } else {
            bad(text, 1, isLetter(sign) || isDigit(sign) ? 6 : isBlank(sign) || sign == ';' ? 8 : 7);
        }
    }

    /** Each sign is a TOKEN by itself: two of them side by side are two, and the second one is where the FAULT is. */
    private static void signs() {
        DUE.sentence("; = + - ( ) , .");
        String all = "let a=high(-1+2,3-(4));";
        good(all, 1);
        good(all.replaceAll("([;=+(),-])", " $1\n"), 1);
        for (char sign : ";=+-(),.".toCharArray()) {
            bad("let a=" + sign + sign + "1;", 1, sign == '-' ? 7 : sign == '(' ? 9 : 6);
            bad("let a=1" + sign + sign + "1;", 1, sign == '+' || sign == '-' || sign == ';' ? 8 : 7);
            bad("die a 1" + sign + sign, 1, sign == ';' ? 8 : 7);
            bad("die a 1;" + sign, 1, 8);
            bad("die" + sign + "a 1;", 1, 3);
        }
    }

    private static void theSinglePoint() {
        DUE.sentence("a single . is one, and can't come.)");
        bad(".", 1, 0);
        bad("..", 1, 0);
        bad("die . 3;", 1, 4);
        bad("die a. 3;", 1, 5);
        bad("die a 3.5;", 1, 7);
        bad("die a 3 .", 1, 8);
        bad("die a 3;.", 1, 8);
        bad("let a.3;", 1, 5);
        bad("let a=.;", 1, 6);
        bad("let a=3.;", 1, 7);
        bad("let a=3 of .;", 1, 11);
        bad("let a=(3.);", 1, 8);
        bad("let a=high(1.2);", 1, 12);
    }

    private static void lines() {
        DUE.sentence("TEXT: { LINE ; }.");
        good("", 0);
        good(" ", 0);
        good("\n \n", 0);
        good("die a 1;", 1);
        good("die a 1;let b=1;", 2);
        bad(";", 1, 0);
        bad("die a 1;;", 1, 8);
        bad("die a 1;let b=1", 1, 15);
        bad("die a 1 let b=1;", 1, 8);
        bad("let a=1 let b=1;", 1, 8);
        bad("a 1;", 1, 0);
        bad("1;", 1, 0);
        bad("=;", 1, 0);
        bad("of a 1;", 1, 0);
        bad("high a 1;", 1, 0);
    }

    private static void facesOfADie() {
        DUE.sentence("LINE: 'die' NAME FACE { FACE } (1 to 12 NUMBERS 0 to 60)");
        bad("die;", 1, 3);
        bad("die a;", 1, 5);
        StringBuilder faces = new StringBuilder();
        for (int f = 1; f <= 12; f++) {
            faces.append(" 7");
            good("die a" + faces + ";", 1);
            DUE.is("about(0, 0)", Due.told("die a" + faces + ";").about(0, 0), f);
            DUE.is("all(0)", Due.told("die a" + faces + ";").all(0), f);
        }
        bad("die a" + faces + " 7;", 4, 5 + faces.length() + 1);
        good("die a 0;", 1);
        good("die a 60;", 1);
        bad("die a 61;", 2, 6);
        bad("die a 99;", 2, 6);
        good("die a 0 60;", 1);
        bad("die a 0 61 60;", 2, 8);
        bad("die a 60 0 61;", 2, 11);
        bad("die a -1;", 1, 6);
        bad("die a 1+1;", 1, 7);
        bad("die a (1);", 1, 6);
        bad("die a=1;", 1, 5);
        good("die a 1;die b 2;", 2);
        bad("die a 1;die b a;", 1, 14);
    }

    private static void sums() {
        DUE.sentence("'let' NAME = SUM. SUM: [ - ] TERM, then + or - TERM, as often as told.");
        bad("let a 1;", 1, 6);
        bad("let a==1;", 1, 6);
        bad("let =1;", 1, 4);
        bad("let a=;", 1, 6);
        bad("let a=-;", 1, 7);
        bad("let a=--1;", 1, 7);
        bad("let a=+1;", 1, 6);
        bad("let a=1+;", 1, 8);
        bad("let a=1-;", 1, 8);
        bad("let a=1++1;", 1, 8);
        bad("let a=1-+1;", 1, 8);
        bad("let a=1+-1;", 1, 8);
        bad("let a=1--1;", 1, 8);
        bad("let a=1 1;", 1, 8);
        bad("let a=1,1;", 1, 7);
        // what stands behind where a sign is due is not read any more
        bad("let a let b=61;", 1, 6);
        bad("let a die b 61;", 1, 6);
        DUE.is("ways(0, -7)", Due.told("let a=-3-4;").ways(0, -7), 1);
        DUE.is("ways(0, 1)", Due.told("let a=-3+4;").ways(0, 1), 1);
        // as often as a text of 500 bytes may tell
        String many = "let a=1" + "+0".repeat(246) + ";";
        DUE.is("length of many", many.length(), 500);
        DUE.is("ways(0, 1) of many", Due.told(many).ways(0, 1), 1);
        String turns = "let a=0" + "-1+1".repeat(123) + ";";
        DUE.is("ways(0, 0) of turns", Due.told(turns).ways(0, 0), 1);
        String inner = "let a=(0" + "-1+1".repeat(122) + "-1);";
        DUE.is("ways(0, -1) of inner turns", Due.told(inner).ways(0, -1), 1);
    }

    private static void terms() {
        DUE.sentence("TERM: NUMBER 'of' UNIT (1 to 6: so many thrown apart, added) | UNIT.");
        String coin = "die a 0 1;let b=";
        bad(coin + "0 of a;", 2, 16);
        for (int times = 1; times <= 6; times++) {
            DiceRing x = Due.told(coin + times + " of a;");
            DUE.is("all(1)", x.all(1), 1 << times);
            DUE.is("about(1, 2)", x.about(1, 2), times);
            DUE.is("ways(1, 1)", x.ways(1, 1), times);
        }
        bad(coin + "7 of a;", 2, 16);
        bad(coin + "60 of a;", 2, 16);
        bad(coin + "00 of a;", 2, 16);
        good(coin + "06 of a;", 2);
        bad(coin + "07 of a;", 2, 16);
        bad(coin + "a of a;", 1, 18);
        bad(coin + "of a;", 1, 16);
        bad(coin + "2 of 2 of a;", 1, 23);
        bad(coin + "2 of -a;", 1, 21);
        bad(coin + "2 of;", 1, 20);
        bad(coin + "2 of);", 1, 20);
        bad(coin + "2 of die;", 1, 21);
        good(coin + "2 of (2 of a);", 2);
        good(coin + "2 of (-a);", 2);
        good(coin + "2 of high(a,a)+2 of 3;", 2);
        // 0 and 7 to 60 are NUMBERS as long as no 'of' comes
        good(coin + "0+7-7+60-60;", 2);
    }

    private static void units() {
        DUE.sentence("UNIT: NUMBER (0 to 60) | NAME (told ahead) | ( SUM ) |");
        good("let a=0;", 1);
        good("let a=60;", 1);
        bad("let a=61;", 2, 6);
        bad("let a=99;", 2, 6);
        good("let a=2 of 0;", 1);
        good("let a=2 of 60;", 1);
        bad("let a=2 of 61;", 2, 11);
        bad("let a=(61);", 2, 7);
        bad("let a=0-61;", 2, 8);
        bad("let a=high(61,1);", 2, 11);
        bad("let a=high(1,61);", 2, 13);
        bad("let a=();", 1, 7);
        bad("let a=(1;", 1, 8);
        bad("let a=1);", 1, 7);
        bad("let a=((1);", 1, 10);
        bad("let a=(1));", 1, 9);
        bad("let a=(1,1);", 1, 8);
        good("let a=(-1);", 1);
        DUE.sentence("( 'high' | 'low' | 'more' ) ( SUM , SUM ).");
        for (String pair : new String[] {"high", "low", "more"}) {
            int from = 6 + pair.length();
            good("let a=" + pair + "(1,2);", 1);
            good("let a=" + pair + "(-1+2,-(1)-2 of 1);", 1);
            bad("let a=" + pair + " 1;", 1, from + 1);
            bad("let a=" + pair + ";", 1, from);
            bad("let a=" + pair + "(1);", 1, from + 2);
            bad("let a=" + pair + "(,1);", 1, from + 1);
            bad("let a=" + pair + "(1,);", 1, from + 3);
            bad("let a=" + pair + "(1,2,3);", 1, from + 4);
            bad("let a=" + pair + "(1,2;", 1, from + 4);
            bad("let a=" + pair + "(1;2);", 1, from + 2);
            bad("let a=" + pair + "((1,2));", 1, from + 3);
        }
    }

    private static void names() {
        DUE.sentence("told once.");
        bad("die a 1;die a 2;", 3, 12);
        bad("die a 1;let a=2;", 3, 12);
        bad("let a=1;die a 2;", 3, 12);
        bad("let a=1;let a=a;", 3, 12);
        bad("let a=1;let b=1;let c=1;let b=1;", 3, 28);
        good("die aa 1;die a 2;die ab 3;die ba 4;", 4);
        DUE.sentence("3 a NAME that is told twice, or not told ahead (at it);");
        good("let a=1;let b=a;", 2);
        bad("let b=a;let a=1;", 3, 6);
        bad("let a=a;", 3, 6);
        bad("let a=1+(2-a);", 3, 11);
        bad("let a=2 of b;", 3, 11);
        bad("let a=high(b,1);", 3, 11);
        bad("let a=more(1,b);", 3, 13);
        bad("let a=(((b)));", 3, 9);
        // a NAME of the TABLE that was ahead is not told by this text
        bad("let a=old;", 3, 6);
    }

    private static void ownWords() {
        DUE.sentence("NAME: a WORD, none of die, let, of, high, low, more;");
        for (String own : OWN) {
            bad("die " + own + " 1;", 1, 4);
            bad("let " + own + "=1;", 1, 4);
            if (own.equals("die") || own.equals("let") || own.equals("of")) {
                bad("let a=" + own + ";", 1, 6);
            } else {
                bad("let a=" + own + ";", 1, 6 + own.length());
            }
            String longer = own + "s";
            good("die " + longer + " 1;let a=" + longer + ";", 2);
            String shorter = own.substring(0, own.length() - 1);
            good("die " + shorter + " 1;let a=" + shorter + "+1;", 2);
            String turned = new StringBuilder(own).reverse().toString();
            good("let " + turned + "=1;die a 3;let b=2 of " + turned + ";", 3);
            String doubled = own.length() > 3 ? own + "ed" : own + own;
            good("let " + doubled + "=1;", 1);
        }
    }

    private static String lines(int many) {
        StringBuilder text = new StringBuilder();
        for (int i = 0; i < many; i++) {
            text.append("let ").append((char) ('a' + i)).append('=').append(i).append(';');
        }
        return text.toString();
    }

    private static void twelveNames() {
        DUE.sentence("12 NAMES at most, numbered from 0 as told.");
        for (int many = 0; many <= 12; many++) {
            good(lines(many), many);
            DiceRing x = Due.told(lines(many));
            for (int k = 0; k < many; k++) {
                DUE.is("ways(" + k + ", " + k + ")", x.ways(k, k), 1);
            }
            DUE.is("all(" + many + ")", x.all(many), -1);
        }
        DUE.sentence("4 a 13th NAME (at its LINE's first WORD),");
        String twelve = lines(12);
        int end = twelve.length();
        bad(twelve + "let m=1;", 4, end);
        bad(twelve + "die m 1;", 4, end);
        bad(twelve + " \n let m=1;", 4, end + 3);
        bad(twelve + "die m 61;", 4, end);
        bad(twelve + "let a=1;", 4, end);
        good(twelve + "  ", 12);
        DUE.is("count(0) of dice and sums", Due.told(lines(11) + "die z 1 2;").count(0), 12);
        bad(lines(11) + "die z 1 2;die y 1;", 4, lines(11).length() + 10);
    }

    private static void noTokenOrCannotCome() {
        DUE.sentence("1 no TOKEN, or one that can't come (at it;");
        bad("die a 3;?", 1, 8);
        bad("die a 3; ?", 1, 9);
        bad("die a 3 ? 61;", 1, 8);
        bad("die a 3\t;", 1, 7);
        bad("die a 3;\0", 1, 8);
        bad("let a=3*3;", 1, 7);
        bad("die\r\na 3;", 1, 3);
        bad("die ( 3;", 1, 4);
        bad("let a=);", 1, 6);
        bad("let a=,;", 1, 6);
        bad("let a==;", 1, 6);
    }

    private static void theEnd() {
        DUE.sentence("the end: how many bytes there are;");
        String line = "let a=high(2 of(1),-3)+4;";
        for (int length = 1; length < line.length(); length++) {
            // what is cut within a WORD, or behind 2 or 3, is read as what is left of it
            String cut = line.substring(0, length);
            if (length < 3) {
                bad(cut, 1, 0);
            } else if (length >= 7 && length < 10) {
                bad(cut, 3, 6);
            } else if (length == 14) {
                bad(cut, 1, 13);
            } else {
                bad(cut, 1, length);
                bad(cut + " ", 1, length + 1);
                bad(cut + "\n\n\n", 1, length + 3);
            }
        }
        good(line, 1);
        bad("die a 3", 1, 7);
        bad("die a 3 ", 1, 8);
        bad("die a 3;die", 1, 11);
        bad("die a 3;die b 3 4", 1, 17);
    }

    private static String filled(String text, int length) {
        return text + " ".repeat(length - text.length());
    }

    private static void fiveHundredBytes() {
        DUE.sentence("A TABLE is a text of at most 500 bytes.");
        String line = "die a 3;";
        good(filled(line, 499), 1);
        good(filled(line, 500), 1);
        bad(filled(line, 501), 1, 500);
        bad(filled(line, 540), 1, 500);
        good(filled("", 500), 0);
        bad(filled("", 501), 1, 500);
        good(filled("die a 3", 499) + ";", 1);
        DUE.sentence("500, if there are more and no FAULT is ahead:");
        bad(filled("die a 3", 500) + ";", 1, 500);
        bad(filled("die a 3", 500), 1, 500);
        bad(filled("die a 3", 501), 1, 500);
        bad(filled("die a 3", 498), 1, 498);
        bad(filled(line, 500) + "?", 1, 500);
        bad(filled(line, 499) + "?", 1, 499);
        bad(filled(line, 499) + "?" + filled("", 40), 1, 499);
        bad(filled(line, 500) + "die b 61;", 1, 500);
        bad(filled("die a 61;", 540), 2, 6);
        bad(filled("die a 3;die a 3;", 540), 3, 12);
        bad(filled("let a=(((((((((((1)))))))))));", 540), 4, 16);
        bad(filled("let a=6 of 60;", 540), 5, 13);
        bad(filled("let a=6 of 60", 499) + ";" + filled("", 40), 5, 499);
        bad(filled("let a=6 of 60", 500) + ";", 1, 500);
        bad(filled("die a ", 499) + "?;", 1, 499);
        bad(filled("die a ", 500) + "?;", 1, 500);
        String twelve = lines(12);
        bad(filled(twelve, 497) + "let m=1;", 4, 497);
        bad(filled(twelve, 499) + "let m=1;", 4, 499);
        bad(filled(twelve, 500) + "let m=1;", 1, 500);
    }

    private static void readWhole() {
        DUE.sentence("TOKENS that begin ahead of it are read whole)");
        String line = "die a 3;";
        bad(filled(line, 497) + "die b 3;", 1, 500);
        bad(filled(line, 498) + "die b 3;", 1, 500);
        bad(filled(line, 499) + "die b 3;", 1, 500);
        bad(filled(line, 499) + "dies b 3;", 1, 499);
        bad(filled(line, 499) + "di b 3;", 1, 499);
        bad(filled(line, 499) + "d", 1, 499);
        bad(filled(line, 495) + "die abcdef 3;", 1, 500);
        bad(filled(line, 495) + "die abcdefg 3;", 1, 499);
        bad(filled(line, 495) + "die a 3;", 3, 499);
        bad(filled(line, 495) + "die aa 3;", 1, 500);
        bad(filled("die a 3 ", 499) + "60;", 1, 500);
        bad(filled("die a 3 ", 499) + "61;", 2, 499);
        bad(filled("die a 3 ", 499) + "600;", 1, 499);
        bad(filled("die a 3 ", 500) + "61;", 1, 500);
        bad(filled(line + "let b=", 499) + "a;", 1, 500);
        bad(filled(line + "let b=", 499) + "aa;", 3, 499);
        bad(filled(line + "let b=", 499) + "high;", 1, 500);
        bad(filled(line + "let b=", 499) + "of;", 1, 499);
        // 'of' is a TOKEN of its own: ahead of 500 it is read, from 500 on not
        bad(filled("let b=7 ", 499) + "of 3;", 2, 6);
        bad(filled("let b=7 ", 500) + "of 3;", 1, 500);
        bad(filled("let b=7 ", 499) + "off 3;", 1, 499);
        bad(filled("let b=6 ", 499) + "of 3;", 1, 500);
    }

    private static void aNumberNotAsTold() {
        DUE.sentence("2 a NUMBER that is not as told (at it);");
        bad("die a 61;", 2, 6);
        bad("die a 1 2 61 3;", 2, 10);
        bad("let a=61;", 2, 6);
        bad("let a=0 of 1;", 2, 6);
        bad("let a=7 of 1;", 2, 6);
        bad("let a=61 of 1;", 2, 6);
        bad("let a=1-0 of 1;", 2, 8);
        bad("let a=1-7 of 1;", 2, 8);
        bad("let a=6 of 61;", 2, 11);
        bad("let a=low(0 of 1,1);", 2, 10);
        bad("let a=(7 of 1);", 2, 7);
        bad("let a=0 of", 2, 6);
        bad("let a=7 of;", 2, 6);
    }

    private static void aNameNotAsTold() {
        DUE.sentence("3 a NAME that is told twice, or not told ahead (at it);");
        String line = "die ab 1;";
        bad(line + "let  ab=1;", 3, 14);
        bad(line + "die\nab 1;", 3, 13);
        good(line + "let a=ab;", 2);
        bad(line + "let a=a;", 3, 15);
        bad(line + "let a=b;", 3, 15);
        bad(line + "let a=abc;", 3, 15);
        bad(line + "let a=ab+ba;", 3, 18);
    }

    private static void tooManyOfThem() {
        DUE.sentence("a 13th FACE, an eleventh ( open at once (at it);");
        bad("die a 1 2 3 4 5 6 7 8 9 0 1 2 3;", 4, 30);
        bad("die a 1 2 3 4 5 6 7 8 9 0 1 2 60 60;", 4, 30);
        bad("die a 1 2 3 4 5 6 7 8 9 0 1 2 0", 4, 30);
        good("die a 1 2 3 4 5 6 7 8 9 0 1 2 ;", 1);
        good("die a 1 2 3 4 5 6;die b 1 2 3 4 5 6 7 8;", 2);
        bad("let a=(((((((((((1)))))))))));", 4, 16);
        bad("let a=((((((((((((1))))))))))));", 4, 16);
        bad("let a=(((((((((((", 4, 16);
        bad("let a=((((((((((", 1, 16);
        good("let a=((((((((((1))))))))));", 1);
    }

    /** Behind so many ( of SUMS that are open, one more of each kind. */
    private static void tenOpenAtOnce() {
        for (int open = 0; open < 10; open++) {
            String ahead = "let a=" + "(".repeat(open);
            good(ahead + "(1)" + ")".repeat(open) + ";", 1);
            good(ahead + "high(1,2)" + ")".repeat(open) + ";", 1);
            good(ahead + "2 of(1)+(2)-low(3,4)" + ")".repeat(open) + ";", 1);
        }
        String ten = "let a=" + "(".repeat(10);
        bad(ten + "(1)", 4, 16);
        bad(ten + "high(1,2)", 4, 20);
        bad(ten + "low (1,2)", 4, 20);
        bad(ten + "more(1,2)", 4, 20);
        bad(ten + "2 of(1)", 4, 20);
        bad(ten + "1+(1)", 4, 18);
        bad(ten + "-(1)", 4, 17);
        // the ( of high, low and more count, in the first SUM as in the second, and what is closed does not
        String pairs = "high(".repeat(10);
        good("let a=" + pairs + "1" + ",1)".repeat(10) + ";", 1);
        bad("let a=" + pairs + "(1", 4, 6 + 50);
        String seconds = "low(1,".repeat(10);
        good("let a=" + seconds + "1" + ")".repeat(10) + ";", 1);
        bad("let a=" + seconds + "(1", 4, 6 + 60);
        good("let a=" + "(1)+".repeat(30) + "1;", 1);
        good("let a=" + "(".repeat(9) + "(1)+(1)-high(1,1)" + ")".repeat(9) + ";", 1);
        // what waits on each of ten levels is not forgotten: a part so far, and the first of a pair
        String waits = "let a=1" + "+high(2,1".repeat(10) + ")".repeat(10) + ";";
        DUE.is("ways(0, 12) of " + waits, Due.told(waits).ways(0, 12), 1);
        String turned = "let a=50" + "-low(60,1".repeat(10) + ")".repeat(10) + ";";
        DUE.is("ways(0, 50) of " + turned, Due.told(turned).ways(0, 50), 1);
        String coins = "die c 0 1;let a=c" + "+high(0,c".repeat(10) + ")".repeat(10) + ";";
        DUE.is("all(1) of " + coins, Due.told(coins).all(1), 2048);
        DUE.is("ways(1, 11) of " + coins, Due.told(coins).ways(1, 11), 1);
        DUE.is("ways(1, 1) of " + coins, Due.told(coins).ways(1, 1), 11);
    }

    private static void theFirstAlongTheText() {
        DUE.sentence("FAULTS, the first along the text,");
        bad("die a 61;die a 1;?", 2, 6);
        bad("die a 1;die a 61;", 3, 12);
        bad("let a=6 of 60;let a=1;", 5, 13);
        bad("let a=6 of 60+b;", 3, 14);
        bad("let a=6 of 60+61;", 2, 14);
        bad("let a=6 of 60+(((((((((((1;", 4, 24);
        bad("let a=6 of 60+7 of 1;", 2, 14);
        bad("let a=6 of 60 1;", 1, 14);
        bad("let a=6 of 60", 1, 13);
        bad("let a=7 of b;", 2, 6);
        bad("let a=7 of ?;", 2, 6);
        bad("let a=7 ? of 1;", 1, 8);
        bad("let a=7 b;", 1, 8);
        bad("let a=61 b;", 2, 6);
        bad("let a=b 61;", 3, 6);
        bad("let a=high(b,61);", 3, 11);
        bad("let a=high(61,b);", 2, 11);
        bad("die a 1 2 3 4 5 6 7 8 9 0 1 2 3 61;", 4, 30);
        bad("die a 1 2 3 4 5 6 7 8 9 0 1 61 3;", 2, 28);
        bad(lines(12) + "let a=61;?", 4, lines(12).length());
        bad(lines(11) + "let z=61;let y=1;", 2, lines(11).length() + 6);
    }

    private static void ofOneTokenTheLeast() {
        DUE.sentence("of one TOKEN the least:");
        // a NUMBER above 60 where none can come
        bad("61", 1, 0);
        bad("die 61;", 1, 4);
        bad("let 61=1;", 1, 4);
        bad("let a 61;", 1, 6);
        bad("let a=1 61;", 1, 8);
        bad("let a=high 61;", 1, 11);
        // a NAME that is told twice or not ahead where none can come
        bad("die a 1;a", 1, 8);
        bad("die a 1 a;", 1, 8);
        bad("die a 1;let b=1 a;", 1, 16);
        bad("let b=1 c;", 1, 8);
        // a 13th FACE above 60
        bad("die a 1 2 3 4 5 6 7 8 9 0 1 2 61;", 2, 30);
        bad("die a 1 2 3 4 5 6 7 8 9 0 1 2 99 0;", 2, 30);
        bad("die a 1 2 3 4 5 6 7 8 9 0 1 2 100;", 1, 30);
        bad("die a 1 2 3 4 5 6 7 8 9 0 1 2 a;", 1, 30);
        // behind twelve LINES what is no LINE's first WORD; an eleventh ( where none can come; a ; that can't come
        bad(lines(12) + "m", 1, lines(12).length());
        bad(lines(12) + "61", 1, lines(12).length());
        bad(lines(12) + ";", 1, lines(12).length());
        bad("let a=((((((((((1(", 1, 17);
        bad("let a=6 of 60+;", 1, 14);
        bad("let a=(6 of 60;", 1, 14);
    }

    private static void theKindOfTheLatest() {
        DUE.sentence("The kind of the FAULT of the latest table();");
        String[] texts = {"?", "die a 61;", "let a=b;", lines(13), "let a=6 of 60;"};
        DiceRing x = new DiceRing();
        for (int kind = 1; kind <= 5; kind++) {
            DUE.is("table() is a FAULT", Due.tell(x, texts[kind - 1]) < 0, true);
            DUE.is("fault()", x.fault(), kind);
            DUE.is("fault() again", x.fault(), kind);
            DUE.is("table() of none", x.table(), 0);
            DUE.is("fault() of none", x.fault(), 0);
            Due.tell(x, texts[5 - kind]);
            DUE.is("fault() of the one before", x.fault(), 6 - kind);
        }
        DUE.sentence("how many NAMES; -1 - the place of a FAULT: the TABLE stays.");
        DUE.is("table()", Due.tell(x, lines(7)), 7);
        DUE.is("table() with a FAULT at 0", Due.tell(x, "?"), -1);
        DUE.is("count(0)", x.count(0), 7);
        DUE.is("table() with a FAULT at 500", Due.tell(x, filled(lines(3), 501)), -501);
        DUE.is("count(0)", x.count(0), 7);
        DUE.is("ways(6, 6)", x.ways(6, 6), 1);
        DUE.is("table() of none", x.table(), 0);
        DUE.is("count(0)", x.count(0), 0);
    }
}
