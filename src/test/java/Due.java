import java.nio.charset.StandardCharsets;
import java.util.NoSuchElementException;
import java.util.function.LongSupplier;

/** What a test holds against the answers, and how it lays texts and bytes on the tape. */
final class Due {
    private final String name;
    private int looked;
    private int wrong;

    Due(String name) {
        this.name = name;
    }

    void is(String call, long got, long want) {
        looked++;
        if (got != want) {
            wrong++;
            System.out.println(name + ": " + call + " answered " + got + ", due is " + want);
        }
    }

    void is(String call, boolean got, boolean want) {
        is(call, got ? 1 : 0, want ? 1 : 0);
    }

    /** The answers in a row must be the wanted ones, and no more than these may be. */
    void row(String call, long[] got, long... want) {
        is(call + " (how many)", got.length, want.length);
        for (int i = 0; i < Math.min(got.length, want.length); i++) {
            is(call + " at " + i, got[i], want[i]);
        }
    }

    void isThrown(String call, LongSupplier asked) {
        looked++;
        try {
            long got = asked.getAsLong();
            wrong++;
            System.out.println(name + ": " + call + " answered " + got + ", due is a NoSuchElementException");
        } catch (NoSuchElementException due) {
            return;
        }
    }

    void end() {
        System.out.println(name + ": " + looked + " looked at, " + wrong + " wrong");
        if (wrong != 0) {
            System.exit(1);
        }
    }

    static void lay(DiceRing x, byte[] bytes) {
        x.end(0);
        for (int i = 0; i < bytes.length; i += 20) {
            x.feed(number(bytes, i), number(bytes, i + 4), number(bytes, i + 8), number(bytes, i + 12),
                    number(bytes, i + 16));
        }
        x.end(bytes.length);
    }

    private static int number(byte[] bytes, int from) {
        int number = 0;
        for (int i = from; i < from + 4; i++) {
            number = number << 8 | (i < bytes.length ? bytes[i] & 255 : '~');
        }
        return number;
    }

    static void lay(DiceRing x, String text) {
        lay(x, text.getBytes(StandardCharsets.ISO_8859_1));
    }

    static void layNumbers(DiceRing x, int... numbers) {
        byte[] bytes = new byte[numbers.length];
        for (int i = 0; i < numbers.length; i++) {
            bytes[i] = (byte) numbers[i];
        }
        lay(x, bytes);
    }

    static int tell(DiceRing x, String text) {
        lay(x, text);
        return x.table();
    }

    static DiceRing told(String text) {
        DiceRing x = new DiceRing();
        if (tell(x, text) < 0) {
            throw new IllegalArgumentException("a test's own TABLE has a FAULT: " + text);
        }
        return x;
    }
}
