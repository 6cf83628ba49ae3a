import java.util.ArrayList;
import java.util.List;
import java.util.NoSuchElementException;
import java.util.Set;
import java.util.TreeMap;
import java.util.TreeSet;
import java.util.function.Consumer;
import java.util.function.LongSupplier;
import java.util.function.ToLongFunction;

/**
 * What each call leaves as it was. Everything that a DiceRing tells of is asked of two objects with the same past,
 * of which one has answered one call more; what is told otherwise then must be just what the call is to change.
 */
public final class LeavesTest {
    private static final Due DUE = new Due("LeavesTest");
    private static final String NAMES = "die a 2 4 9;die b 1 6 8;die c 3 5 7;let d=a-b;let e=2 of c;let f=60;";
    private static final String OTHER = "let a=1;die b 60;";

    private static final String TAPE = "tape";
    private static final String FAULT = "FAULT";
    private static final String TABLE = "TABLE";
    private static final String RING = "RING";
    private static final String SHARES = "shares";
    private static final String FACES = "OTHER FACES";
    private static final String WORD = "WORD";
    private static final String LETTERS = "letters";
    private static final String PARTS = "PARTS";

    public static void main(String[] args) {
        callsThatTell();
        callsThatThrow();
        tapes();
        tables();
        tablesWithAFault();
        rings();
        picks();
        others();
        words();
        firstWordsAndLaid();
        rolls();
        lastCalls();
        oneObjectAndAnother();
        DUE.end();
    }

    // ---- what is told by an object

    /** A past in which each call has told something, and a tape with something on it. */
    private static DiceRing past() {
        DiceRing x = new DiceRing();
        Due.tell(x, NAMES);
        x.ring();
        x.picks(7);
        x.others(0, 1, 3, 3, 0);
        Due.lay(x, "abccab");
        x.fair();
        x.firstWord(2, 2, 7);
        Due.layNumbers(x, 5, 3);
        x.rolled();
        Due.tell(x, "die a 61;");
        Due.lay(x, "die x 7;let y=2;");
        return x;
    }

    private static void add(List<Long> told, LongSupplier asked) {
        try {
            told.add(asked.getAsLong());
        } catch (NoSuchElementException e) {
            told.add(Long.MIN_VALUE);
        }
    }

    private static TreeMap<String, List<Long>> told(DiceRing x) {
        TreeMap<String, List<Long>> told = new TreeMap<>();
        for (String part : new String[] {TAPE, FAULT, TABLE, RING, SHARES, FACES, WORD, LETTERS, PARTS}) {
            told.put(part, new ArrayList<>());
        }
        add(told.get(FAULT), x::fault);
        add(told.get(TABLE), () -> x.count(0));
        for (int k = 0; k < 7; k++) {
            int asked = k;
            add(told.get(TABLE), () -> x.all(asked));
            add(told.get(TABLE), () -> x.about(asked, 0));
            add(told.get(TABLE), () -> x.mean(asked, 0));
            add(told.get(TABLE), () -> x.mean(asked, 2));
            add(told.get(TABLE), () -> x.ways(asked, 5));
            add(told.get(TABLE), () -> x.beaten(asked));
        }
        for (int k = 0; k < 12; k++) {
            int asked = k;
            add(told.get(RING), () -> x.ringAt(asked));
            add(told.get(SHARES), () -> x.pickAt(asked));
            add(told.get(PARTS), () -> x.rolledBy(asked));
            add(told.get(LETTERS), () -> x.letter(asked));
            add(told.get(FACES), () -> x.otherAt(asked % 2, 0, asked / 2));
            add(told.get(FACES), () -> x.otherAt(asked % 2, 1, asked / 2));
        }
        for (int digits : new int[] {12, 21, 123, 132, 213, 231, 312, 321, 1234, 4321}) {
            add(told.get(WORD), () -> x.order(digits));
        }
        for (int place = 0; place < 3; place++) {
            int asked = place;
            add(told.get(WORD), () -> x.placed(0, asked));
            add(told.get(WORD), () -> x.placed(1, asked));
        }
        add(told.get(TAPE), () -> x.count(2));
        add(told.get(TAPE), x::table);
        add(told.get(TAPE), x::fault);
        add(told.get(TAPE), () -> x.ways(0, 7));
        add(told.get(TAPE), () -> x.ways(1, 2));
        return told;
    }

    private static void changes(String call, Consumer<DiceRing> ahead, Consumer<DiceRing> asked, String... parts) {
        DiceRing x = past();
        DiceRing y = past();
        ahead.accept(x);
        ahead.accept(y);
        asked.accept(y);
        TreeMap<String, List<Long>> before = told(x);
        TreeMap<String, List<Long>> after = told(y);
        Set<String> changed = new TreeSet<>();
        for (String part : before.keySet()) {
            if (!before.get(part).equals(after.get(part))) {
                changed.add(part);
            }
        }
        Set<String> want = new TreeSet<>(List.of(parts));
        DUE.is(call + " changed " + changed + " and should change " + want, changed.equals(want), true);
    }

    private static void changes(String call, Consumer<DiceRing> asked, String... parts) {
        changes(call, x -> { }, asked, parts);
    }

    /** The call with what it should answer; it changes nothing, answered once or several times. */
    private static void leavesAll(String call, long want, ToLongFunction<DiceRing> asked) {
        DUE.is(call, asked.applyAsLong(past()), want);
        changes(call, x -> asked.applyAsLong(x));
        changes(call + " several times", x -> {
            asked.applyAsLong(x);
            asked.applyAsLong(x);
            asked.applyAsLong(x);
        });
    }

    private static void throwing(String call, Consumer<DiceRing> asked) {
        DUE.isThrown(call, () -> {
            asked.accept(past());
            return 0;
        });
        changes(call, x -> {
            try {
                asked.accept(x);
            } catch (NoSuchElementException due) {
                return;
            }
        });
    }

    // ---- calls that change nothing

    private static void callsThatTell() {
        DUE.sentence("Nothing is promised beyond the answers and state changes described above,");
        leavesAll("fault()", 2, x -> x.fault());
        leavesAll("about(4, 1)", 6, x -> x.about(4, 1));
        leavesAll("all(4)", 9, x -> x.all(4));
        leavesAll("all(6)", -1, x -> x.all(6));
        leavesAll("ways(4, 6)", 1, x -> x.ways(4, 6));
        leavesAll("ways(6, 6)", -1, x -> x.ways(6, 6));
        leavesAll("mean(0, 2)", 26, x -> x.mean(0, 2));
        leavesAll("against(0, 1, 2, 1)", 44, x -> x.against(0, 1, 2, 1));
        leavesAll("against(0, 6, 1, 2)", -1, x -> x.against(0, 6, 1, 2));
        leavesAll("beats(0, 1, 2)", -1, x -> x.beats(0, 1, 2));
        leavesAll("beats(0, 1, 5)", -2, x -> x.beats(0, 1, 5));
        leavesAll("beaten(0)", 2 + 8, x -> x.beaten(0));
        leavesAll("beaten(6)", -1, x -> x.beaten(6));
        leavesAll("ringAt(0)", 0, x -> x.ringAt(0));
        leavesAll("ringAt(3)", -1, x -> x.ringAt(3));
        leavesAll("threes()", 1, x -> x.threes());
        leavesAll("top()", 32, x -> x.top());
        leavesAll("anyTwo()", 5, x -> x.anyTwo());
        leavesAll("pickAt(2)", 1, x -> x.pickAt(2));
        leavesAll("pickAt(3)", 0, x -> x.pickAt(3));
        leavesAll("otherAt(0, 1, 2)", 10, x -> x.otherAt(0, 1, 2));
        leavesAll("order(123)", 2, x -> x.order(123));
        leavesAll("order(12)", -1, x -> x.order(12));
        leavesAll("placed(0, 0)", 4, x -> x.placed(0, 0));
        leavesAll("placed(0, 3)", -1, x -> x.placed(0, 3));
        leavesAll("letter(1)", 1, x -> x.letter(1));
        leavesAll("letter(4)", -1, x -> x.letter(4));
        leavesAll("rolledBy(2)", 111111111111111L, x -> x.rolledBy(2));
        leavesAll("rolledBy(3)", 0, x -> x.rolledBy(3));
        leavesAll("meets(0, 200)", 1, x -> Long.signum(x.meets(0, 200)));
        leavesAll("meets(3, 1)", -1, x -> x.meets(3, 1));
        leavesAll("apart(0, 1)", 18, x -> x.apart(0, 1));
        leavesAll("apart(0, 6)", -1, x -> x.apart(0, 6));
        leavesAll("shift(0, 1)", 1000, x -> x.shift(0, 1));
        for (int what = 0; what < 4; what++) {
            int asked = what;
            leavesAll("count(" + what + ")", new int[] {6, 3, 16, -1}[what], x -> x.count(asked));
        }
    }

    private static void callsThatThrow() {
        DUE.sentence("A call that throws changes nothing.");
        throwing("about(6, 0)", x -> x.about(6, 0));
        throwing("about(-1, 1)", x -> x.about(-1, 1));
        throwing("about(0, 3)", x -> x.about(0, 3));
        throwing("mean(6, 0)", x -> x.mean(6, 0));
        throwing("mean(0, 4)", x -> x.mean(0, 4));
        throwing("otherAt(100, 0, 0)", x -> x.otherAt(100, 0, 0));
        throwing("otherAt(0, 2, 0)", x -> x.otherAt(0, 2, 0));
        throwing("otherAt(0, 0, 3)", x -> x.otherAt(0, 0, 3));
        throwing("shift(0, 6)", x -> x.shift(0, 6));
        throwing("shift(6, 0)", x -> x.shift(6, 0));
    }

    // ---- the tape and the TABLE

    private static void tapes() {
        DUE.sentence("NONE, and none come, if it would have more than 540.");
        Consumer<DiceRing> fill = x -> {
            while (x.count(2) <= 520) {
                x.feed(0x20202020, 0x20202020, 0x20202020, 0x20202020, 0x20202020);
            }
        };
        changes("feed beyond 540", fill, x -> x.feed(1, 2, 3, 4, 5));
        changes("feed twice beyond 540", fill, x -> x.feed(x.feed(1, 2, 3, 4, 5), 2, 3, 4, 5));
        DUE.sentence("Twenty bytes come behind the tape,");
        changes("feed", x -> x.feed(1, 2, 3, 4, 5), TAPE);
        DUE.sentence("false, if it has not so many, or n is below 0.");
        changes("end(17) of 16", x -> x.end(17));
        changes("end(-1)", x -> x.end(-1));
        changes("end(540) of 16", x -> x.end(540));
        DUE.sentence("The tape has its first n bytes alone: true;");
        changes("end(16) of 16", x -> x.end(16));
        changes("end(15) of 16", x -> x.end(15), TAPE);
        changes("end(0) of 16", x -> x.end(0), TAPE);
        changes("end(0) of none", x -> x.end(0), x -> x.end(0));
    }

    private static void tables() {
        DUE.sentence("is the TABLE now (what other calls told last stays):");
        changes("table()", x -> x.table(), TAPE, FAULT, TABLE);
        changes("table() of none", x -> x.end(0), x -> x.table(), FAULT, TABLE);
        changes("table() of the same NAMES", x -> Due.lay(x, NAMES), x -> x.table(), TAPE, FAULT);
        changes("table() told twice", x -> {
            x.table();
            Due.tell(x, OTHER);
        }, TAPE, FAULT, TABLE);
    }

    private static void tablesWithAFault() {
        DUE.sentence("-1 - the place of a FAULT: the TABLE stays.");
        String[] texts = {"die q 7;?", "die q 7;die r 61;", "die q 7;let r=s;", "die q 1 2 3 4 5 6 7 8 9 10 11 12 13;",
            "die q 7;let r=6 of 60;", "die q 7", " ".repeat(501), "die q 7;let r=high(q,2 of (q-q", "let q=6 of 60-60;"};
        int[] kinds = {1, 2, 3, 4, 5, 1, 1, 1, 5};
        for (int i = 0; i < texts.length; i++) {
            String text = texts[i];
            // the FAULT of the past is of kind 2 too
            String[] parts = kinds[i] == 2 ? new String[] {TAPE} : new String[] {TAPE, FAULT};
            String[] partsOfTwo = kinds[i] == 2 ? new String[] {TAPE, TABLE} : new String[] {TAPE, TABLE, FAULT};
            changes("table() of " + text, x -> Due.lay(x, text), x -> x.table(), parts);
            // behind a good one, and several times
            changes("table() of " + text + " three times", x -> {
                x.table();
                Due.tell(x, text);
                Due.tell(x, text);
                Due.tell(x, text);
            }, partsOfTwo);
            DiceRing x = past();
            x.table();
            DUE.is("table() of " + text, Due.tell(x, text) < 0, true);
            DUE.is("fault() of " + text, x.fault(), kinds[i]);
            DUE.is("count(0) behind " + text, x.count(0), 2);
            DUE.is("ways(0, 7) behind " + text, x.ways(0, 7), 1);
            DUE.is("ways(1, 2) behind " + text, x.ways(1, 2), 1);
        }
    }

    // ---- what other calls told last

    private static void rings() {
        DUE.sentence("NAME of the RING of the latest ring() that told one;");
        changes("ring()", x -> x.ring());
        changes("ring() of another RING", x -> Due.tell(x, "let z=0;die a 2 4 9;die b 1 6 8;die c 3 5 7;"), x -> x.ring(), RING);
        changes("ring() of none", x -> Due.tell(x, OTHER), x -> x.ring());
        changes("ring() of no NAMES", x -> Due.tell(x, ""), x -> x.ring());
    }

    private static void picks() {
        DUE.sentence("by the latest picks() that told one;");
        changes("picks(7)", x -> x.picks(7));
        changes("picks(1)", x -> x.picks(1), SHARES);
        changes("picks(39)", x -> x.picks(39), SHARES);
        changes("picks(0)", x -> x.picks(0));
        changes("picks(64)", x -> x.picks(64));
        changes("picks(-1)", x -> x.picks(-1));
        changes("picks of eight", x -> Due.tell(x, "let a=1;let b=2;let c=3;let d=4;let e=5;let f=6;let g=7;let h=8;"),
                x -> x.picks(255));
        changes("picks of two that are even", x -> Due.tell(x, "let a=1;let b=1;"), x -> x.picks(3));
        changes("picks of no NAMES", x -> Due.tell(x, ""), x -> x.picks(1));
    }

    private static void others() {
        DUE.sentence("by the latest others() that was not NONE:");
        changes("others(0, 1, 3, 3, 0)", x -> x.others(0, 1, 3, 3, 0));
        changes("others(0, 1, 1, 9, 0)", x -> x.others(0, 1, 1, 9, 0), FACES);
        changes("others(0, 2, 3, 3, 0)", x -> x.others(0, 2, 3, 3, 0), FACES);
        changes("others of no pair", x -> x.others(0, 1, 3, 3, 60), FACES);
        changes("others(0, 1, 3, 4, 0)", x -> x.others(0, 1, 3, 4, 0));
        changes("others(0, 1, 9, 1, 0)", x -> x.others(0, 1, 9, 1, 0));
        changes("others(0, 1, 3, 3, -1)", x -> x.others(0, 1, 3, 3, -1));
        changes("others(0, 1, 3, 3, 61)", x -> x.others(0, 1, 3, 3, 61));
        changes("others(0, 3, 3, 3, 0)", x -> x.others(0, 3, 3, 3, 0));
        changes("others(6, 0, 3, 3, 0)", x -> x.others(6, 0, 3, 3, 0));
    }

    private static void words() {
        DUE.sentence("the dice of the latest fair() that was not NONE come in an ORDER:");
        changes("fair() of the same", x -> Due.lay(x, "abccab"), x -> x.fair(), TAPE);
        changes("fair() of another", x -> Due.lay(x, "cbacba"), x -> x.fair(), TAPE, WORD);
        changes("fair() of two", x -> Due.lay(x, "ab"), x -> x.fair(), TAPE, WORD);
        changes("fair() of four", x -> Due.lay(x, "dcba"), x -> x.fair(), TAPE, WORD);
        changes("fair() of no WORD", x -> x.fair(), TAPE);
        changes("fair() of none", x -> x.end(0), x -> x.fair());
        changes("fair() of too many", x -> Due.lay(x, "abcdabcdabcdabcdabcdabcdabcd"), x -> x.fair(), TAPE);
        changes("fair() of five dice", x -> Due.lay(x, "abcde"), x -> x.fair(), TAPE);
        changes("fair() of unlike many", x -> Due.lay(x, "cbabc"), x -> x.fair(), TAPE);
    }

    private static void firstWordsAndLaid() {
        DUE.sentence("of the word of the latest firstWord() that told 1, laid() that told FACES,");
        changes("firstWord(2, 2, 7)", x -> x.firstWord(2, 2, 7));
        changes("firstWord(2, 4, 7)", x -> x.firstWord(2, 4, 7), LETTERS);
        changes("firstWord(4, 3, 0)", x -> x.firstWord(4, 3, 0), LETTERS);
        changes("firstWord(2, 1, 7)", x -> x.firstWord(2, 1, 7));
        changes("firstWord(3, 3, 1)", x -> x.firstWord(3, 3, 1));
        changes("firstWord(4, 2, 4)", x -> x.firstWord(4, 2, 4));
        changes("firstWord(5, 1, 0)", x -> x.firstWord(5, 1, 0));
        changes("firstWord(2, 7, 0)", x -> x.firstWord(2, 7, 0));
        changes("firstWord(2, 2, 8)", x -> x.firstWord(2, 2, 8));
        changes("laid(2)", x -> Due.layNumbers(x, 0, 1), x -> x.laid(2), TAPE, LETTERS);
        changes("laid(3) of none", x -> x.end(0), x -> x.laid(3), LETTERS);
        changes("laid(4) that goes round", x -> Due.layNumbers(x, 0, 1, 1, 2, 2, 3, 3, 0), x -> x.laid(4), TAPE, LETTERS);
        changes("laid(2) that none do", x -> Due.layNumbers(x, 0, 1, 1, 0), x -> x.laid(2), TAPE);
        changes("laid(4) that none do", x -> Due.layNumbers(x, 0, 1, 1, 2, 2, 3, 3, 0, 2, 1), x -> x.laid(4), TAPE);
        changes("laid(2) of a text", x -> x.laid(2), TAPE);
        changes("laid(1)", x -> Due.layNumbers(x, 0, 1), x -> x.laid(1), TAPE);
        changes("laid(5) of none", x -> x.end(0), x -> x.laid(5));
        changes("laid(2) of half a pair", x -> Due.layNumbers(x, 0, 1, 0), x -> x.laid(2), TAPE);
    }

    private static void rolls() {
        DUE.sentence("by the latest rolled() that had a row as told;");
        changes("rolled() of the same", x -> Due.layNumbers(x, 5, 3), x -> x.rolled(), TAPE);
        changes("rolled() of 1", x -> Due.layNumbers(x, 1), x -> x.rolled(), TAPE, PARTS);
        changes("rolled() that none has", x -> Due.layNumbers(x, 60), x -> x.rolled(), TAPE, PARTS);
        changes("rolled() of a text", x -> x.rolled(), TAPE);
        changes("rolled() of none", x -> x.end(0), x -> x.rolled());
        changes("rolled() of 61", x -> Due.layNumbers(x, 5, 3, 61), x -> x.rolled(), TAPE);
        changes("rolled() of twenty-one", x -> Due.layNumbers(x, new int[21]), x -> x.rolled(), TAPE);
        changes("rolled() of no dice", x -> {
            Due.tell(x, "let a=1;");
            Due.layNumbers(x, 1);
        }, x -> x.rolled(), TAPE, PARTS);
    }

    // ---- objects

    private static void lastCalls() {
        DUE.sentence("An object is used for at most 512 calls after it has been made;");
        DiceRing x = new DiceRing();
        for (int call = 1; call <= 508; call++) {
            x.feed(call, call, call, call, call);
        }
        DUE.is("call 509, end(0)", x.end(0), true);
        DUE.is("call 510, feed", x.feed(0x64696520, 0x61203720, 0x393b2020, 0x20202020, 0x20202020), 20);
        DUE.is("call 511, table()", x.table(), 1);
        DUE.is("call 512, ways(0, 9)", x.ways(0, 9), 1);
        DiceRing y = Due.told("die a 1 2 3 4 5 6;");
        for (int call = 4; call <= 511; call += 2) {
            DUE.is("others(0, 0, 6, 6, 1) as call " + call, y.others(0, 0, 6, 6, 1), 2);
            DUE.is("otherAt(0, 1, 5) as call " + (call + 1), y.otherAt(0, 1, 5), 8);
        }
    }

    private static void oneObjectAndAnother() {
        DUE.sentence("The empty TABLE; an empty tape.");
        DiceRing x = past();
        DiceRing y = new DiceRing();
        DUE.is("what a new object tells beside one with a past", told(y).equals(told(new DiceRing())), true);
        DUE.is("what one tells beside a new object", told(x).equals(told(past())), true);
    }
}
