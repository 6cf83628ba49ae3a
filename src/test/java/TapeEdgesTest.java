/** Sentence by sentence, what the document says of the tape and of a new object: promises 1, 2, 3, 33. */
public final class TapeEdgesTest {
    private static final Due DUE = new Due("TapeEdgesTest");
    private static final String DICE = "die a 1 2 2 3;die b 5 6 7 7;";

    public static void main(String[] args) {
        newObject();
        feedTheHighestFirst();
        feedUpTo540();
        endOfTheTape();
        onlyTheFirstBytesAreRead();
        theTapeIsEmptyThen();
        counts();
        DUE.end();
    }

    private static void newObject() {
        DUE.sentence("The empty TABLE; an empty tape.");
        DiceRing x = new DiceRing();
        DUE.is("count(0)", x.count(0), 0);
        DUE.is("count(1)", x.count(1), 0);
        DUE.is("count(2)", x.count(2), 0);
        DUE.is("all(0)", x.all(0), -1);
        DUE.is("top()", x.top(), 0);
        DUE.is("end(1)", x.end(1), false);
        DUE.is("feed", x.feed(0, 0, 0, 0, 0), 20);
        // each of these reads a tape without bytes on a new object
        DUE.is("table()", new DiceRing().table(), 0);
        DUE.is("fair()", new DiceRing().fair(), -1);
        DUE.is("rolled()", new DiceRing().rolled(), -1);
        DUE.is("laid(2)", new DiceRing().laid(2), 1);
        DUE.sentence("0 without one and ahead of any.");
        DUE.is("fault()", new DiceRing().fault(), 0);
        DUE.sentence("0: it has none (also ahead of any).");
        DUE.is("pickAt(0)", new DiceRing().pickAt(0), 0);
        DUE.sentence("0: it is no die, or has none (also ahead of any).");
        DUE.is("rolledBy(0)", new DiceRing().rolledBy(0), 0);
        DUE.sentence("NONE: there is none such, or ahead of any.");
        DUE.is("ringAt(0)", new DiceRing().ringAt(0), -1);
        DUE.is("letter(0)", new DiceRing().letter(0), -1);
        DUE.sentence("NONE: it is no ORDER of all these, or ahead of any.");
        DUE.is("order(12)", new DiceRing().order(12), -1);
        DUE.is("order(123)", new DiceRing().order(123), -1);
        DUE.is("order(1234)", new DiceRing().order(1234), -1);
        DUE.is("order(0)", new DiceRing().order(0), -1);
        DUE.sentence("NONE: no such ones, or ahead of any.");
        DUE.is("placed(0, 0)", new DiceRing().placed(0, 0), -1);
        DUE.sentence("NoSuchElementException: there is none such, or ahead of any.");
        DUE.isThrown("otherAt(0, 0, 0)", () -> new DiceRing().otherAt(0, 0, 0));
        DUE.isThrown("otherAt(0, 1, 0)", () -> new DiceRing().otherAt(0, 1, 0));
    }

    /** One number tells "die ", one the rest of the LINE, at each of the five places. */
    private static void feedTheHighestFirst() {
        DUE.sentence("Twenty bytes come behind the tape, of each number the highest first: how many it has;");
        int blanks = 0x20202020;
        int die = 0x64696520;
        int line = 0x7a20373b;
        int[][] fed = {{die, line, blanks, blanks, blanks}, {blanks, die, line, blanks, blanks},
            {blanks, blanks, die, line, blanks}, {blanks, blanks, blanks, die, line}};
        for (int[] f : fed) {
            DiceRing x = new DiceRing();
            DUE.is("feed", x.feed(f[0], f[1], f[2], f[3], f[4]), 20);
            DUE.is("table()", x.table(), 1);
            DUE.is("ways(0, 7)", x.ways(0, 7), 1);
        }
        // bytes of 128 and more, highest and lowest of a number, are no less bytes
        int[] strange = {0x80202020, 0x20802020, 0x20208020, 0x20202080, 0xff202020, 0x202020ff};
        int[] places = {0, 1, 2, 3, 0, 3};
        for (int i = 0; i < strange.length; i++) {
            DiceRing x = new DiceRing();
            x.feed(blanks, strange[i], blanks, blanks, blanks);
            DUE.is("table() of a strange byte", x.table(), -1 - 4 - places[i]);
            x.feed(blanks, blanks, blanks, blanks, strange[i]);
            DUE.is("table() of a strange byte behind", x.table(), -1 - 16 - places[i]);
        }
        DiceRing x = new DiceRing();
        DUE.is("first feed", x.feed(blanks, blanks, blanks, blanks, die), 20);
        DUE.is("second feed", x.feed(line, blanks, blanks, blanks, blanks), 40);
        DUE.is("table() of both", x.table(), 1);
        DUE.is("feed after the tape was read", x.feed(blanks, blanks, blanks, blanks, blanks), 20);
        x.end(3);
        DUE.is("feed behind three", x.feed(die, line, blanks, blanks, blanks), 23);
        DUE.is("table() then", x.table(), 1);
    }

    private static void feedUpTo540() {
        DUE.sentence("NONE, and none come, if it would have more than 540.");
        DiceRing x = new DiceRing();
        for (int i = 1; i < 27; i++) {
            x.feed(i, i, i, i, i);
        }
        DUE.is("count(2)", x.count(2), 520);
        DUE.is("feed to 540", x.feed(0, 0, 0, 0, 0), 540);
        DUE.is("feed beyond 540", x.feed(0, 0, 0, 0, 0), -1);
        DUE.is("count(2) then", x.count(2), 540);
        int[] ends = {521, 522, 530, 539, 540};
        for (int end : ends) {
            DiceRing y = full();
            y.end(end);
            DUE.is("feed behind " + end, y.feed(0x3b3b3b3b, 0x3b3b3b3b, 0x3b3b3b3b, 0x3b3b3b3b, 0x3b3b3b3b), -1);
            DUE.is("count(2) behind " + end, y.count(2), end);
            DUE.is("end of one more", y.end(end + 1), false);
            y.end(500);
            DUE.is("table() of blanks yet", y.table(), 0);
        }
        for (int end = 519; end <= 520; end++) {
            DiceRing y = full();
            y.end(end);
            DUE.is("feed behind " + end, y.feed(0, 0, 0, 0, 0), end + 20);
        }
    }

    private static DiceRing full() {
        DiceRing x = new DiceRing();
        for (int i = 0; i < 27; i++) {
            x.feed(0x20202020, 0x20202020, 0x20202020, 0x20202020, 0x20202020);
        }
        return x;
    }

    private static void endOfTheTape() {
        DUE.sentence("false, if it has not so many, or n is below 0.");
        DiceRing x = new DiceRing();
        DUE.is("end(0) of none", x.end(0), true);
        DUE.is("end(1) of none", x.end(1), false);
        x.feed(0, 0, 0, 0, 0);
        for (int n : new int[] {21, 22, 540, Integer.MAX_VALUE, -1, -2, -20, Integer.MIN_VALUE}) {
            DUE.is("end(" + n + ")", x.end(n), false);
            DUE.is("count(2) after end(" + n + ")", x.count(2), 20);
        }
        DUE.is("end(20) of twenty", x.end(20), true);
        DUE.is("count(2)", x.count(2), 20);
        DUE.is("end(19) of twenty", x.end(19), true);
        DUE.is("end(20) of nineteen", x.end(20), false);
        DUE.is("end(1)", x.end(1), true);
        DUE.is("end(0) of one", x.end(0), true);
        DUE.is("count(2) of none", x.count(2), 0);
        DiceRing y = full();
        DUE.is("end(541) of 540", y.end(541), false);
        DUE.is("end(540) of 540", y.end(540), true);
    }

    /** What stood behind the end of a tape is bait: it must not be read. */
    private static void onlyTheFirstBytesAreRead() {
        DUE.sentence("The tape has its first n bytes alone: true;");
        DiceRing x = new DiceRing();
        cut(x, "die a 7;die b 9;", 8);
        DUE.is("table() of the first 8", x.table(), 1);
        cut(x, "die a 7;", 7);
        DUE.is("table() of the first 7", x.table(), -8);
        cut(x, "die a 77;", 7);
        DUE.is("table() ahead of a digit", x.table(), -8);
        cut(x, "die abcdefg 7;", 10);
        DUE.is("table() ahead of a letter", x.table(), -11);
        cut(x, "ababab", 4);
        DUE.is("fair() of the first 4", x.fair(), 0);
        DUE.is("order(12)", x.order(12), 3);
        DUE.is("order(21)", x.order(21), 1);
        cut(x, "ababab", 5);
        DUE.is("fair() of the first 5", x.fair(), -1);
        cut(x, "\1\0\0\1", 2);
        DUE.is("laid(2) of the first 2", x.laid(2), 1);
        DUE.is("letter(0)", x.letter(0), 0);
        cut(x, "\1\0\0\1", 3);
        DUE.is("laid(2) of the first 3", x.laid(2), -2);
        Due.tell(x, DICE);
        cut(x, "\2\2\5", 2);
        DUE.is("rolled() of the first 2", x.rolled(), 0);
        DUE.is("rolledBy(0)", x.rolledBy(0), 250000000000000L);
        cut(x, "\2\u00ff", 1);
        DUE.is("rolled() of the first 1", x.rolled(), 0);
        cut(x, "\2\2\5", 0);
        DUE.is("rolled() of none", x.rolled(), -1);
    }

    private static void cut(DiceRing x, String bytes, int n) {
        Due.lay(x, bytes);
        x.end(n);
    }

    private static void theTapeIsEmptyThen() {
        DUE.sentence("The tape (empty then, here and below, whatever is answered) is the TABLE now");
        DiceRing x = new DiceRing();
        isEmpty(x, "table()", Due.tell(x, DICE), 2);
        isEmpty(x, "table() with a FAULT", Due.tell(x, "die a 61;"), -7);
        isEmpty(x, "table() of too many bytes", Due.tell(x, " ".repeat(540)), -501);
        isEmpty(x, "table() of blanks", Due.tell(x, " ".repeat(500)), 0);
        Due.lay(x, "abba");
        isEmpty(x, "fair()", x.fair(), 7);
        Due.lay(x, "abb");
        isEmpty(x, "fair() of no WORD", x.fair(), -1);
        Due.lay(x, "a".repeat(540));
        isEmpty(x, "fair() of 540", x.fair(), -1);
        Due.layNumbers(x, 0, 1);
        isEmpty(x, "laid(2)", x.laid(2), 1);
        Due.layNumbers(x, 0, 1, 1, 0);
        isEmpty(x, "laid(2) that none do", x.laid(2), -1);
        Due.layNumbers(x, 0, 0);
        isEmpty(x, "laid(2) of one twice", x.laid(2), -2);
        Due.layNumbers(x, 0, 1);
        isEmpty(x, "laid(1)", x.laid(1), -2);
        Due.layNumbers(x, 0, 1);
        isEmpty(x, "laid(5)", x.laid(5), -2);
        Due.layNumbers(x, new int[540]);
        isEmpty(x, "laid(2) of 540", x.laid(2), -2);
        Due.tell(x, DICE);
        Due.layNumbers(x, 2);
        isEmpty(x, "rolled()", x.rolled(), 0);
        Due.layNumbers(x, 4);
        isEmpty(x, "rolled() that none has", x.rolled(), -1);
        Due.layNumbers(x, 61);
        isEmpty(x, "rolled() of 61", x.rolled(), -1);
        Due.layNumbers(x, new int[540]);
        isEmpty(x, "rolled() of 540", x.rolled(), -1);
    }

    private static void isEmpty(DiceRing x, String call, long got, long want) {
        DUE.is(call, got, want);
        DUE.is("count(2) after " + call, x.count(2), 0);
        DUE.is("end(1) after " + call, x.end(1), false);
        DUE.is("feed after " + call, x.feed(0x64696520, 0x7a20373b, 0x20202020, 0x20202020, 0x20202020), 20);
        x.end(0);
    }

    private static void counts() {
        DUE.sentence("0 NAMES, 1 dice, 2 bytes of the tape. NONE for another what.");
        DiceRing x = new DiceRing();
        Due.tell(x, "let a = 1;");
        DUE.is("count(0) of one", x.count(0), 1);
        DUE.is("count(1) of no die", x.count(1), 0);
        Due.tell(x, "die a 1;let b = a;die c 2 3;let d = 2 of c;die e 4;");
        DUE.is("count(0) of five", x.count(0), 5);
        DUE.is("count(1) of three dice", x.count(1), 3);
        StringBuilder twelve = new StringBuilder();
        for (char name = 'a'; name <= 'l'; name++) {
            twelve.append("die ").append(name).append(" 1;");
        }
        Due.tell(x, twelve.toString());
        DUE.is("count(0) of twelve", x.count(0), 12);
        DUE.is("count(1) of twelve", x.count(1), 12);
        // dice that are no more, in either of the TABLES ahead, are not counted
        Due.tell(x, twelve.toString());
        for (int many = 0; many < 3; many++) {
            String few = twelve.substring(0, 8 * many);
            DUE.is("table() of " + few, Due.tell(x, few), many);
            DUE.is("count(0) of " + few, x.count(0), many);
            DUE.is("count(1) of " + few, x.count(1), many);
            Due.tell(x, twelve.toString());
        }
        x.feed(1, 2, 3, 4, 5);
        x.feed(1, 2, 3, 4, 5);
        x.end(33);
        DUE.is("count(2)", x.count(2), 33);
        for (int what : new int[] {-1, 3, 4, Integer.MAX_VALUE, Integer.MIN_VALUE}) {
            DUE.is("count(" + what + ")", x.count(what), -1);
        }
    }
}
