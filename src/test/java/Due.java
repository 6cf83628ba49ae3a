import java.io.IOException;
import java.nio.charset.StandardCharsets;
import java.nio.file.Files;
import java.nio.file.Path;
import java.util.NoSuchElementException;
import java.util.function.LongSupplier;

/** What a test holds against the answers, and how it lays texts and bytes on the tape. */
final class Due {
    private static final Path DOCUMENT = Path.of("../shared/DOC.md");

    private final String name;
    private int looked;
    private int wrong;
    private int sentences;
    private int lookedAhead;
    private String sentence = "";
    private String document = "";

    Due(String name) {
        this.name = name;
    }

    /** What the document says, in its words, of what is looked at next; a sentence that nothing looks at is wrong. */
    void sentence(String words) {
        endSentence();
        sentences++;
        sentence = words;
        if (!isInDocument(words)) {
            wrong("the document does not say so");
        }
        lookedAhead = looked;
    }

    private boolean isInDocument(String words) {
        if (!Files.exists(DOCUMENT)) {
            return true;
        }
        try {
            document = document.isEmpty() ? Files.readString(DOCUMENT, StandardCharsets.UTF_8).replaceAll("\\s+", " ") : document;
        } catch (IOException e) {
            return false;
        }
        return document.contains(words);
    }

    private void endSentence() {
        if (!sentence.isEmpty() && looked == lookedAhead) {
            wrong("nothing was looked at");
        }
    }

    private void wrong(String what) {
        wrong++;
        System.out.println(name + ": " + what + (sentence.isEmpty() ? "" : " [" + sentence + "]"));
    }

    void is(String call, long got, long want) {
        looked++;
        if (got != want) {
            wrong(call + " answered " + got + ", due is " + want);
        }
    }

    void is(String call, boolean got, boolean want) {
        is(call, got ? 1 : 0, want ? 1 : 0);
    }

    /** The answers in a row must be the wanted ones, and no more than these may be. */
    void row(String call, long[] got, long... want) {
        is(call + " (how many)", got.length, want.length);
        for (int i = 0; i < Math.min(got.length, want.length); i++) {
            is(call + " at " + i, got[i], want[i]);
        }
    }

    void isThrown(String call, LongSupplier asked) {
        looked++;
        try {
            long got = asked.getAsLong();
            wrong(call + " answered " + got + ", due is a NoSuchElementException");
        } catch (NoSuchElementException due) {
            return;
        }
    }

    void end() {
        endSentence();
        System.out.println(name + ": " + (sentences == 0 ? "" : sentences + " sentences, ") + looked + " looked at, " + wrong
                + " wrong");
        if (wrong != 0) {
            System.exit(1);
        }
    }

    static void lay(DiceRing x, byte[] bytes) {
        x.end(0);
        for (int i = 0; i < bytes.length; i += 20) {
            x.feed(number(bytes, i), number(bytes, i + 4), number(bytes, i + 8), number(bytes, i + 12),
                    number(bytes, i + 16));
        }
        x.end(bytes.length);
    }

    private static int number(byte[] bytes, int from) {
        int number = 0;
        for (int i = from; i < from + 4; i++) {
            number = number << 8 | (i < bytes.length ? bytes[i] & 255 : '~');
        }
        return number;
    }

    static void lay(DiceRing x, String text) {
        lay(x, text.getBytes(StandardCharsets.ISO_8859_1));
    }

    static void layNumbers(DiceRing x, int... numbers) {
        byte[] bytes = new byte[numbers.length];
        for (int i = 0; i < numbers.length; i++) {
            bytes[i] = (byte) numbers[i];
        }
        lay(x, bytes);
    }

    static int tell(DiceRing x, String text) {
        lay(x, text);
        return x.table();
    }

    static DiceRing told(String text) {
        DiceRing x = new DiceRing();
        if (tell(x, text) < 0) {
            throw new IllegalArgumentException("a test's own TABLE has a FAULT: " + text);
        }
        return x;
    }
}
