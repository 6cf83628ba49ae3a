import java.lang.management.ManagementFactory;
import java.util.ArrayList;
import java.util.List;

/** What objects take: rows are made with the object, and calls use them again. */
public final class RoomTest {
    private static final Due DUE = new Due("RoomTest");
    private static final long OBJECT_BYTES = 600000;
    private static final long CALL_BYTES = 1000;
    private static final com.sun.management.ThreadMXBean THREADS =
            (com.sun.management.ThreadMXBean) ManagementFactory.getThreadMXBean();

    public static void main(String[] args) {
        makeOne();
        callsMakeNothing();
        DUE.end();
    }

    private static long taken() {
        return THREADS.getThreadAllocatedBytes(Thread.currentThread().getId());
    }

    private static void makeOne() {
        new DiceRing();
        long before = taken();
        List<DiceRing> made = new ArrayList<>();
        made.add(new DiceRing());
        long each = taken() - before;
        DUE.is("an object takes more than " + OBJECT_BYTES + " bytes: " + each, each > OBJECT_BYTES, false);
        DUE.is("objects made", made.size(), 1);
    }

    private static void callsMakeNothing() {
        for (int round = 0; round < 20; round++) {
            DiceRing x = new DiceRing();
            long before = taken();
            ask(x, round);
            long made = taken() - before;
            // what the test itself lays on the tape is all that may be made; the first rounds load classes
            DUE.is("calls take bytes in round " + round + ": " + made, round > 5 && made > 40 * CALL_BYTES, false);
        }
    }

    private static void ask(DiceRing x, int round) {
        for (int i = 0; i < 4; i++) {
            Due.tell(x, "die a 1 2 3 4 5 6 7 8;die b 1 2 3 4 5 6 7 8;let c = high(a,low(b,3 of a))-6 of b;let d = 6 of a;");
            x.others(0, 1, 8, 8, 0);
            x.others(0, 1, 4, 16, 0);
            x.against(2, 2, 1, round % 3);
            x.against(0, 1, 4, 0);
            x.picks(1);
            x.ring();
            x.threes();
            x.top();
            x.anyTwo();
            x.meets(0, 200);
            x.apart(2, 3);
            x.firstWord(2, 6, 7);
            x.firstWord(3, 3, 3);
            x.firstWord(4, 2, 3);
            Due.layNumbers(x, 0, 1, 1, 2, 2, 3, 3, 0);
            x.laid(4);
            Due.layNumbers(x, 1, 2, 3, 4, 5, 6, 7, 8);
            x.rolled();
            Due.lay(x, "abcddcbaabcddcba");
            x.fair();
            x.order(1234);
            x.placed(3, 3);
        }
    }
}
