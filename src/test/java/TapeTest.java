/** Promises 1, 2, 3 and 33: a new object, feed, end, count. */
public final class TapeTest {
    private static final Due DUE = new Due("TapeTest");

    public static void main(String[] args) {
        newObject();
        feedTakesTheHighestByteFirst();
        feedUpToTheEdge();
        endKeepsTheFirstBytes();
        counts();
        DUE.end();
    }

    private static void newObject() {
        DiceRing x = new DiceRing();
        DUE.is("NONE", DiceRing.NONE, -1);
        DUE.is("count(2)", x.count(2), 0);
        DUE.is("count(1)", x.count(1), 0);
        DUE.is("count(0)", x.count(0), 0);
        DUE.is("fault()", x.fault(), 0);
        DUE.is("end(0)", x.end(0), true);
        DUE.is("end(1)", x.end(1), false);
        DUE.is("all(0)", x.all(0), -1);
        DUE.is("top()", x.top(), 0);
        DUE.is("table() of an empty tape", x.table(), 0);
        DUE.is("fault() of an empty tape", x.fault(), 0);
    }

    private static void feedTakesTheHighestByteFirst() {
        DiceRing x = new DiceRing();
        DUE.is("feed", x.feed(0x64696520, 0x61203120, 0x32203320, 0x34203520, 0x363b3b3b), 20);
        DUE.is("end(18)", x.end(18), true);
        DUE.is("table()", x.table(), 1);
        DUE.is("ways(0, 6)", x.ways(0, 6), 1);
        DUE.is("all(0)", x.all(0), 6);
        // bytes above 127 are bytes like others, and none of them is a TOKEN
        DUE.is("feed", x.feed(-1, -1, -1, -1, -1), 20);
        DUE.is("table()", x.table(), -1);
        // numbers of throws tell each byte of each place
        DUE.is("feed", x.feed(0x01020304, 0x05060101, 0x02030405, 0x06010203, 0x04050601), 20);
        DUE.is("end(12)", x.end(12), true);
        DUE.is("rolled()", x.rolled(), 0);
        DUE.is("rolledBy(0)", x.rolledBy(0), 459393L);
        DUE.is("feed", x.feed(0x01010101, 0x01010101, 0x01010101, 0x01010101, 0x01010107), 20);
        DUE.is("rolled() with a 7 at the end", x.rolled(), -1);
        DUE.is("feed", x.feed(0x07010101, 0x01010101, 0x01010101, 0x01010101, 0x01010101), 20);
        DUE.is("end(1)", x.end(1), true);
        DUE.is("rolled() with the first 7 alone", x.rolled(), -1);
    }

    private static void feedUpToTheEdge() {
        DiceRing x = new DiceRing();
        for (int i = 1; i <= 27; i++) {
            DUE.is("feed " + i, x.feed(i, i, i, i, i), 20 * i);
        }
        DUE.is("feed beyond", x.feed(1, 1, 1, 1, 1), -1);
        DUE.is("count(2) then", x.count(2), 540);
        DUE.is("end(521)", x.end(521), true);
        DUE.is("feed to 541", x.feed(1, 1, 1, 1, 1), -1);
        DUE.is("count(2) at 521", x.count(2), 521);
        DUE.is("end(520)", x.end(520), true);
        DUE.is("feed to 540", x.feed(1, 1, 1, 1, 1), 540);
    }

    private static void endKeepsTheFirstBytes() {
        DiceRing x = new DiceRing();
        Due.lay(x, "die a 1 2;die b 3;");
        DUE.is("end(19)", x.end(19), false);
        DUE.is("end(-1)", x.end(-1), false);
        DUE.is("end(least)", x.end(Integer.MIN_VALUE), false);
        DUE.is("end(most)", x.end(Integer.MAX_VALUE), false);
        DUE.is("count(2)", x.count(2), 18);
        DUE.is("end(18)", x.end(18), true);
        DUE.is("end(10)", x.end(10), true);
        DUE.is("end(11) then", x.end(11), false);
        DUE.is("count(2) then", x.count(2), 10);
        DUE.is("table()", x.table(), 1);
        // what comes behind a shorter tape stands right behind its end
        Due.lay(x, "die a 1 2;xxxx");
        x.end(10);
        DUE.is("feed behind", x.feed(0x64696520, 0x62203520, 0x363b2020, 0x20202020, 0x20202020), 30);
        DUE.is("table() of both", x.table(), 2);
        DUE.is("ways(1, 6)", x.ways(1, 6), 1);
    }

    private static void counts() {
        DiceRing x = Due.told("die a 1;let b = a + a;die c 2;let d = 3;");
        DUE.is("count(0)", x.count(0), 4);
        DUE.is("count(1)", x.count(1), 2);
        DUE.is("count(2)", x.count(2), 0);
        x.feed(1, 2, 3, 4, 5);
        DUE.is("count(2)", x.count(2), 20);
        DUE.is("count(3)", x.count(3), -1);
        DUE.is("count(-1)", x.count(-1), -1);
        x.end(0);
        DUE.is("count(2) of the ended tape", x.count(2), 0);
    }
}
