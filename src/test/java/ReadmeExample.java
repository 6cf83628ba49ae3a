/** What README.md shows: a text is laid on the tape and told, and what it says is asked. */
public final class ReadmeExample {
    public static void main(String[] args) {
        DiceRing x = new DiceRing();
        lay(x, "die a 2 4 9; die b 1 6 8; die c 3 5 7; let best = high(a, 2 of b) - 1;");
        say("table() tells how many NAMES", x.table());
        say("ways(3, 8): WAYS of 8 of best", x.ways(3, 8));
        say("all(3): ALL of best", x.all(3));
        say("against(0, 1, 1, 0): a is greater than b in so many of 9", x.against(0, 1, 1, 0));
        say("beats(0, 1, 1): thrown once a BEATS b", x.beats(0, 1, 1));
        say("beats(0, 1, 2): thrown twice and added b BEATS a", x.beats(0, 1, 2));
        say("ring(): so many dice in a RING", x.ring());
        say("ringAt(1): the second of them is b", x.ringAt(1));
        say("picks(7): of a, b, c so many are to be picked", x.picks(7));
        say("pickAt(0): the share of a", x.pickAt(0));
        say("others(0, 1, 3, 3, 1): pairs of dice with the sums of a and b", x.others(0, 1, 3, 3, 1));
        say("otherAt(0, 1, 2): the greatest FACE of the first pair's y", x.otherAt(0, 1, 2));

        lay(x, "die a 1 2 3 4; let b = 61;");
        say("table() tells of a FAULT at byte 23", x.table());
        say("fault(): its kind, a NUMBER that is not as told", x.fault());
        say("count(0): the TABLE is still the one ahead", x.count(0));

        lay(x, "abba");
        say("fair() takes the tape as a WORD", x.fair());
        say("order(12): rows in which a is less than b", x.order(12));

        layBytes(x, 0, 1, 1, 2, 2, 0);
        say("laid(3) takes it as pairs, and tells FACES", x.laid(3));
        say("letter(0): the word of these dice begins with a", x.letter(0));

        layBytes(x, 9, 2, 4);
        say("rolled() takes it as a row of throws; it was a", x.rolled());
        say("rolledBy(0): PARTS of a", x.rolledBy(0));
    }

    private static void say(String what, long answer) {
        System.out.println(answer + " <- " + what);
    }

    private static void lay(DiceRing x, String text) {
        int[] bytes = new int[text.length()];
        for (int i = 0; i < bytes.length; i++) {
            bytes[i] = text.charAt(i);
        }
        layBytes(x, bytes);
    }

    /** feed takes twenty bytes at a time, of each number the highest first; end cuts off what was too many. */
    private static void layBytes(DiceRing x, int... bytes) {
        for (int i = 0; i < bytes.length; i += 20) {
            x.feed(four(bytes, i), four(bytes, i + 4), four(bytes, i + 8), four(bytes, i + 12), four(bytes, i + 16));
        }
        x.end(bytes.length);
    }

    private static int four(int[] bytes, int from) {
        int number = 0;
        for (int i = from; i < from + 4; i++) {
            number = number << 8 | (i < bytes.length ? bytes[i] : 0);
        }
        return number;
    }
}
