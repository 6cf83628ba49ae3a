import java.util.ArrayList;
import java.util.Arrays;
import java.util.Collections;
import java.util.List;
import java.util.Random;

/** Sentence by sentence, what the document says of beating, THROWS, the RING, TOP, ANY TWO and PICKS: promises 10 to 19. */
public final class BeatEdgesTest {
    private static final Due DUE = new Due("BeatEdgesTest");
    private static final String THREE = "die a 2 4 9;die b 1 6 8;die c 3 5 7;";
    /** Of each two of these seven a third one beats both. */
    private static final String SEVEN = "die a 2 2 14 14 17 17;die b 7 7 10 10 16 16;die c 5 5 13 13 15 15;"
            + "die d 3 3 9 9 21 21;die e 1 1 12 12 20 20;die f 6 6 8 8 19 19;die g 4 4 11 11 18 18;";

    public static void main(String[] args) {
        greaterLessEven();
        beatsByOne();
        severalThrows();
        fourThrowsAtMost();
        tooManyWays();
        noSuchNames();
        rings();
        ofLikeRingsTheFirst();
        ringsThatAreTold();
        threes();
        tops();
        anyTwo();
        picks();
        setsThatAreNone();
        evenNames();
        leastShares();
        DUE.end();
    }

    private static void against(DiceRing x, int a, int b, int k, long greater, long less, long even) {
        String call = "against(" + a + ", " + b + ", " + k + ", ";
        DUE.is(call + "0)", x.against(a, b, k, 0), greater);
        DUE.is(call + "1)", x.against(a, b, k, 1), less);
        DUE.is(call + "2)", x.against(a, b, k, 2), even);
        DUE.is("beats(" + a + ", " + b + ", " + k + ")", x.beats(a, b, k), greater > less ? 1 : greater < less ? -1 : 0);
    }

    private static void greaterLessEven() {
        DUE.sentence("GREATER (what 0), LESS (1), EVEN (2) of NAMES a and b in k THROWS;");
        DiceRing coins = Due.told("die a 1 2 2;die b 2 1 0 0;");
        DUE.is("against(0, 1, 1, 0)", coins.against(0, 1, 1, 0), 8);
        DUE.is("against(0, 1, 1, 1)", coins.against(0, 1, 1, 1), 1);
        DUE.is("against(0, 1, 1, 2)", coins.against(0, 1, 1, 2), 3);
        DUE.sentence("GREATER, LESS, EVEN: of ALL times ALL those WAYS in which the first is greater, less, or even.");
        DiceRing x = Due.told("die a 1 2 3;die b 2 2;let c=-a;let d=2;let e=60+60+60+20;let f=-e;die g 2 3;let h=1;");
        against(x, 0, 1, 1, 2, 2, 2);
        against(x, 1, 0, 1, 2, 2, 2);
        against(x, 0, 6, 1, 1, 3, 2);
        against(x, 6, 0, 1, 3, 1, 2);
        against(x, 0, 2, 1, 9, 0, 0);
        against(x, 2, 0, 1, 0, 9, 0);
        against(x, 3, 3, 1, 0, 0, 1);
        against(x, 3, 7, 1, 1, 0, 0);
        against(x, 4, 5, 1, 1, 0, 0);
        against(x, 5, 4, 1, 0, 1, 0);
        against(x, 0, 7, 1, 2, 0, 1);
        DUE.sentence("Two NAMES (or one twice), thrown apart:");
        against(x, 0, 0, 1, 3, 3, 3);
        against(x, 1, 1, 1, 0, 0, 4);
        against(x, 4, 4, 1, 0, 0, 1);
        against(x, 0, 0, 2, 31, 31, 19);
    }

    private static void beatsByOne() {
        DUE.sentence("It BEATS the other one, if GREATER is above LESS.");
        DiceRing x = Due.told("die a 1 4 4;die b 2 3 4;die c 2 3 5;die d 1 4 5;die e 1 3 5;");
        against(x, 0, 1, 1, 4, 3, 2);
        against(x, 1, 0, 1, 3, 4, 2);
        against(x, 0, 2, 1, 4, 5, 0);
        against(x, 3, 2, 1, 4, 4, 1);
        against(x, 4, 2, 1, 3, 4, 2);
        DUE.sentence("In k THROWS: 1 a BEATS b, -1 b BEATS a, 0 neither;");
        DUE.is("beats(0, 1, 1)", x.beats(0, 1, 1), 1);
        DUE.is("beats(1, 0, 1)", x.beats(1, 0, 1), -1);
        DUE.is("beats(3, 2, 1)", x.beats(3, 2, 1), 0);
        DUE.is("beats(2, 2, 1)", x.beats(2, 2, 1), 0);
        DUE.sentence("The NAMES that NAME a BEATS, as bits; NONE: no such one.");
        DUE.is("beaten(0)", x.beaten(0), 2);
        DUE.is("beaten(1)", x.beaten(1), 0);
        DUE.is("beaten(2)", x.beaten(2), 1 + 2 + 16);
        DUE.is("beaten(3)", x.beaten(3), 1 + 2 + 16);
        DUE.is("beaten(5)", x.beaten(5), -1);
        DUE.is("beaten(-1)", x.beaten(-1), -1);
        DUE.is("beaten(0) of an empty TABLE", new DiceRing().beaten(0), -1);
        DiceRing row = Due.told(row(12));
        for (int a = 0; a < 12; a++) {
            DUE.is("beaten(" + a + ") of a row", row.beaten(a), (1 << a) - 1);
        }
        DUE.is("beaten(12)", row.beaten(12), -1);
    }

    /** So many NAMES of which each one is a number greater than the one ahead. */
    private static String row(int names) {
        StringBuilder text = new StringBuilder();
        for (int k = 0; k < names; k++) {
            text.append("let ").append((char) ('a' + k)).append('=').append(k).append(';');
        }
        return text.toString();
    }

    private static void severalThrows() {
        DUE.sentence("each thrown k times and added");
        DiceRing x = Due.told(THREE + "die d 0 1;let e=1;let f=4 of 50;let g=-f;let h=f-1;die i 0 3;");
        against(x, 0, 1, 1, 5, 4, 0);
        against(x, 0, 1, 2, 37, 44, 0);
        against(x, 3, 4, 1, 0, 1, 1);
        against(x, 3, 4, 2, 0, 3, 1);
        against(x, 3, 4, 3, 0, 7, 1);
        against(x, 3, 4, 4, 0, 15, 1);
        against(x, 8, 4, 1, 1, 1, 0);
        against(x, 8, 4, 2, 3, 1, 0);
        against(x, 8, 4, 3, 4, 1, 3);
        against(x, 8, 4, 4, 11, 5, 0);
        // numbers beyond -200 .. 200 are no hindrance here
        for (int k = 1; k <= 4; k++) {
            against(x, 5, 6, k, 1, 0, 0);
            against(x, 6, 5, k, 0, 1, 0);
            against(x, 5, 5, k, 0, 0, 1);
            against(x, 6, 6, k, 0, 0, 1);
            against(x, 5, 7, k, 1, 0, 0);
        }
    }

    private static void fourThrowsAtMost() {
        DUE.sentence("k THROWS (1 to 4):");
        DiceRing x = Due.told("die a 1;die b 2;");
        for (int k : new int[] {Integer.MIN_VALUE, -1, 0, 5, 6, Integer.MAX_VALUE}) {
            DUE.is("beats(0, 1, " + k + ")", x.beats(0, 1, k), -2);
            for (int what = 0; what < 3; what++) {
                DUE.is("against(0, 1, " + k + ", " + what + ")", x.against(0, 1, k, what), -1);
            }
        }
        for (int k = 1; k <= 4; k++) {
            against(x, 0, 1, k, 0, 1, 0);
        }
    }

    /** NAME 0 has one WAY; the last one ALL of these FACES multiplied, all of them 0. */
    private static DiceRing zeros(int... faces) {
        StringBuilder text = new StringBuilder("die z 1;");
        StringBuilder sum = new StringBuilder("let s=");
        for (int i = 0; i < faces.length; i++) {
            text.append("die ").append((char) ('a' + i)).append(" 0".repeat(faces[i])).append(';');
            sum.append(i == 0 ? "" : "+").append((char) ('a' + i));
        }
        return Due.told(text.append(sum).append(';').toString());
    }

    private static void throwsOf(int k, int most, boolean are, int... faces) {
        DiceRing x = zeros(faces);
        int s = faces.length + 1;
        DUE.is("all(" + s + ")", x.all(s), most);
        long all = 1;
        for (int i = 0; i < k; i++) {
            all *= most;
        }
        DUE.is("against(s, z) in " + k, x.against(s, 0, k, 1), are ? all : -1);
        DUE.is("against(z, s) in " + k, x.against(0, s, k, 0), are ? all : -1);
        DUE.is("against(z, s) in " + k + ", LESS", x.against(0, s, k, 1), are ? 0 : -1);
        DUE.is("against(s, s) in " + k, x.against(s, s, k, 2), are ? all * all : -1);
        DUE.is("beats(s, z) in " + k, x.beats(s, 0, k), are ? -1 : -2);
        DUE.is("beats(z, s) in " + k, x.beats(0, s, k), are ? 1 : -2);
        DUE.is("beats(s, s) in " + k, x.beats(s, s, k), are ? 0 : -2);
        // one THROW less is never too much here
        DUE.is("beats(s, z) in " + (k - 1), x.beats(s, 0, k - 1), k == 1 ? -2 : -1);
    }

    private static void tooManyWays() {
        DUE.sentence("(none, if ALL of one k times is above 1000000000).");
        throwsOf(1, 1000000000, true, 10, 10, 10, 10, 10, 10, 10, 10, 10);
        throwsOf(2, 31500, true, 12, 7, 5, 5, 5, 3);
        throwsOf(2, 31680, false, 12, 12, 11, 10, 2);
        throwsOf(3, 1000, true, 10, 10, 10);
        throwsOf(3, 1008, false, 12, 12, 7);
        throwsOf(4, 176, true, 11, 8, 2);
        throwsOf(4, 180, false, 12, 5, 3);
        DiceRing x = zeros(10, 10, 10, 10, 10, 10, 10, 10, 10);
        DUE.is("beats(s, s, 2)", x.beats(10, 10, 2), -2);
        DUE.is("beats(s, z, 2)", x.beats(10, 0, 2), -2);
        DUE.is("against(s, s, 1, 2)", x.against(10, 10, 1, 2), 1000000000000000000L);
        DiceRing most = Due.told("die a 1 2 3 4 5 6 7 8 9 10;let b=3 of(3 of a);let c=b+60;let d=b-60;");
        against(most, 1, 1, 1, (1000000000000000000L - most.against(1, 1, 1, 2)) / 2,
                (1000000000000000000L - most.against(1, 1, 1, 2)) / 2, most.against(1, 1, 1, 2));
        DUE.is("all WAYS of c and d", most.against(2, 3, 1, 0) + most.against(2, 3, 1, 1) + most.against(2, 3, 1, 2),
                1000000000000000000L);
        DUE.is("beats(c, d, 1)", most.beats(2, 3, 1), 1);
        DUE.is("beats(d, c, 1)", most.beats(3, 2, 1), -1);
    }

    private static void noSuchNames() {
        DiceRing x = Due.told(THREE);
        DUE.sentence("NONE: no such ones, or too many WAYS.");
        int[][] none = {{-1, 0}, {0, -1}, {3, 0}, {0, 3}, {3, 3}, {-1, -1}, {12, 0}, {0, 12}, {Integer.MAX_VALUE, 0},
            {0, Integer.MIN_VALUE}};
        for (int[] n : none) {
            for (int what = 0; what < 3; what++) {
                DUE.is("against" + Arrays.toString(n), x.against(n[0], n[1], 1, what), -1);
            }
        }
        for (int what : new int[] {-1, 3, Integer.MIN_VALUE, Integer.MAX_VALUE}) {
            DUE.is("against of another what", x.against(0, 1, 1, what), -1);
        }
        DUE.is("against(2, 2, 1, 2)", x.against(2, 2, 1, 2), 3);
        DUE.is("against of an empty TABLE", new DiceRing().against(0, 0, 1, 0), -1);
        DUE.sentence("-2: no such ones, or too many WAYS.");
        for (int[] n : none) {
            DUE.is("beats" + Arrays.toString(n), x.beats(n[0], n[1], 1), -2);
        }
        DUE.is("beats(2, 2, 1)", x.beats(2, 2, 1), 0);
        DUE.is("beats of an empty TABLE", new DiceRing().beats(0, 0, 1), -2);
    }

    /**
     * NAMES that go round in this order and are even where they are not next to one another: in each of as many
     * rows of three numbers one NAME has the least, the one ahead of it the greatest, all others the middle one.
     */
    private static String round(int... order) {
        int n = order.length;
        StringBuilder text = new StringBuilder();
        for (int k = 0; k < n; k++) {
            text.append("die ").append((char) ('a' + k));
            for (int row = 0; row < n; row++) {
                int level = order[row] == k ? 0 : order[(row + 1) % n] == k ? 2 : 1;
                text.append(' ').append(3 * row + level);
            }
            text.append(';');
        }
        return text.toString();
    }

    private static void ring(String text, int... want) {
        DiceRing x = Due.told(text);
        DUE.is("ring() of " + text, x.ring(), want.length == 0 ? -1 : want.length);
        for (int i = 0; i < 13; i++) {
            DUE.is("ringAt(" + i + ") of " + text, x.ringAt(i), i < want.length ? want[i] : -1);
        }
        DUE.is("ringAt(-1) of " + text, x.ringAt(-1), -1);
        DUE.is("ringAt(least) of " + text, x.ringAt(Integer.MIN_VALUE), -1);
        DUE.is("ringAt(most) of " + text, x.ringAt(Integer.MAX_VALUE), -1);
    }

    private static void rings() {
        DUE.sentence("A RING: NAMES of which each BEATS the next and the last one the first: the shortest;");
        ring("");
        ring("let a=1;");
        ring("let a=1;let b=1;");
        ring("let a=1;let b=2;");
        ring(row(12));
        ring("let a=1;let b=1;let c=1;");
        for (int n = 3; n <= 12; n++) {
            int[] order = new int[n];
            for (int i = 0; i < n; i++) {
                order[i] = i;
            }
            ring(round(order), order);
        }
        DUE.sentence("its least number being its first).");
        Random random = new Random(7);
        for (int n = 3; n <= 12; n++) {
            List<Integer> others = new ArrayList<>();
            for (int i = 1; i < n; i++) {
                others.add(i);
            }
            for (int times = 0; times < 6; times++) {
                Collections.shuffle(others, random);
                int[] order = new int[n];
                int[] turned = new int[n];
                int turn = random.nextInt(n);
                for (int i = 0; i < n; i++) {
                    order[i] = i == 0 ? 0 : others.get(i - 1);
                    turned[(i + turn) % n] = order[i];
                }
                ring(round(turned), order);
            }
        }
        // a shorter one is taken, wherever it stands
        ring("die x 60;" + "die y 60;" + THREE, 2, 3, 4);
        ring(SEVEN, 0, 1, 3);
        String four = "die a 1 5 8;die b 4 4 7;die c 3 4 8;die d 2 6 7;";
        ring(four, 0, 1, 2, 3);
        ring(four + "die e 32 34 39;die f 31 36 38;die g 33 35 37;", 4, 5, 6);
        ring("die e 32 34 39;die f 31 36 38;" + four + "die g 33 35 37;", 0, 1, 6);
    }

    private static void ofLikeRingsTheFirst() {
        DUE.sentence("of like ones the first (NAME by NAME the lesser number,");
        String high = "die d 32 34 39;die e 31 36 38;die f 33 35 37;";
        ring(THREE + high, 0, 1, 2);
        ring("die d 32 34 39;" + THREE + "die e 31 36 38;die f 33 35 37;", 0, 4, 5);
        ring("die d 32 34 39;die a 2 4 9;die b 1 6 8;die e 31 36 38;die c 3 5 7;die f 33 35 37;", 0, 3, 5);
        ring("die a 2 4 9;die d 32 34 39;die b 1 6 8;die e 31 36 38;die c 3 5 7;die f 33 35 37;", 0, 2, 4);
        // both from the same NAME on: the lesser second one; then of the same two the lesser third one
        ring("die a 2 4 9;die c 3 5 7;die v 3 5 7;die b 1 6 8;die w 1 6 8;", 0, 3, 1);
        ring("die a 2 4 9;die w 1 6 8;die v 3 5 7;die b 1 6 8;die c 3 5 7;", 0, 1, 2);
        ring("die c 3 5 7;die v 3 5 7;die b 1 6 8;die w 1 6 8;die a 2 4 9;", 0, 4, 2);
        ring("die b 1 6 8;die a 2 4 9;die x 2 4 9;die c 3 5 7;die v 3 5 7;", 0, 3, 1);
        // of two of four the first, as of two of three
        String four = "die a 1 5 8;die b 4 4 7;die c 3 4 8;die d 2 6 7;";
        ring(four + "die e 31 35 38;die f 34 34 37;die g 33 34 38;die h 32 36 37;", 0, 1, 2, 3);
        ring("die e 31 35 38;die f 34 34 37;" + four + "die g 33 34 38;die h 32 36 37;", 0, 1, 6, 7);
    }

    private static void ringsThatAreTold() {
        DUE.sentence("The k-th (from 0) NAME of the RING of the latest ring() that told one; NONE: there is none such, or ahead of any.");
        DiceRing x = Due.told(round(0, 2, 1, 3));
        DUE.is("ringAt(0) ahead of any", x.ringAt(0), -1);
        DUE.is("ring()", x.ring(), 4);
        DUE.is("ringAt(1)", x.ringAt(1), 2);
        DUE.is("ringAt(3)", x.ringAt(3), 3);
        DUE.is("ringAt(4)", x.ringAt(4), -1);
        Due.tell(x, "let a=1;let b=2;let c=3;");
        DUE.is("ring() of none", x.ring(), -1);
        DUE.is("ringAt(3) yet", x.ringAt(3), 3);
        Due.tell(x, THREE);
        DUE.is("ringAt(3) ahead of the next", x.ringAt(3), 3);
        DUE.is("ring() of three", x.ring(), 3);
        DUE.is("ringAt(1) then", x.ringAt(1), 1);
        DUE.is("ringAt(2) then", x.ringAt(2), 2);
        DUE.is("ringAt(3) then", x.ringAt(3), -1);
        DUE.sentence("How many NAMES the RING has; NONE: there is none.");
        DUE.is("ring() of an empty TABLE", new DiceRing().ring(), -1);
        DUE.is("ring() of one that is even", Due.told("die a 1 2;").ring(), -1);
        DUE.is("ring() of twelve", Due.told(round(0, 1, 2, 3, 4, 5, 6, 7, 8, 9, 10, 11)).ring(), 12);
    }

    private static void threes() {
        DUE.sentence("How many sets of three NAMES are a RING (in one way about or the other).");
        DUE.is("threes() of none", new DiceRing().threes(), 0);
        DUE.is("threes() of two", Due.told("let a=1;let b=2;").threes(), 0);
        DUE.is("threes() of three in a row", Due.told(row(3)).threes(), 0);
        DUE.is("threes() of three", Due.told(round(0, 1, 2)).threes(), 1);
        DUE.is("threes() of three the other way", Due.told(round(0, 2, 1)).threes(), 1);
        for (int n = 4; n <= 12; n++) {
            int[] order = new int[n];
            for (int i = 0; i < n; i++) {
                order[i] = i;
            }
            DUE.is("threes() of a RING of " + n, Due.told(round(order)).threes(), 0);
        }
        DUE.is("threes() of seven", Due.told(SEVEN).threes(), 14);
        DUE.is("threes() of three and nine others", Due.told("let i=0;let j=0;let k=0;let l=60;let m=59;let n=58;" + THREE
                + "let o=57;let p=56;let q=55;").threes(), 1);
        DUE.is("threes() of the last three of twelve", Due.told(row(9).replace("a=", "z=") + "die r 42 44 49;die s 41 46 48;"
                + "die t 43 45 47;").threes(), 1);
        DUE.is("threes() of each four times", Due.told(THREE + THREE.replace("die ", "die b") + THREE.replace("die ", "die c")
                + THREE.replace("die ", "die d")).threes(), 64);
    }

    private static void top(String text, int want) {
        DUE.is("top() of " + text, Due.told(text).top(), want);
    }

    private static void tops() {
        DUE.sentence("TOP: the least set (not empty) of NAMES of which each BEATS all others that are not in it.");
        top("let a=0;", 1);
        top("let a=1;let b=1;", 3);
        top("let a=1;let b=2;", 2);
        top("let a=2;let b=1;", 1);
        top(row(12), 1 << 11);
        top(row(12).replace("k=10", "k=11"), 3 << 10);
        top(round(0, 1, 2, 3, 4, 5, 6, 7, 8, 9, 10, 11), 4095);
        top(SEVEN, 127);
        top(SEVEN + "let h=30;", 128);
        top(SEVEN + "let h=0;", 127);
        top("let h=0;" + SEVEN, 254);
        // one that is even to a single one of the others takes all of them in
        top("let a=9;let b=8;let c=7;let d=9;", 9);
        top("die a 1 4;die b 2 3;let c=1;let d=5;", 8);
        top("die a 1 4;die b 2 3;let c=1;", 3);
        top("die a 2 4;die b 2 3;let c=2;", 1);
        top("die a 1 4;let b=2;die c 0 3;let d=0;", 7);
        DUE.sentence("TOP, as bits; 0 without NAMES.");
        DUE.is("top() of an empty TABLE", new DiceRing().top(), 0);
        DiceRing x = Due.told(THREE);
        DUE.is("top()", x.top(), 7);
        x.table();
        DUE.is("top() of an emptied TABLE", x.top(), 0);
    }

    private static void anyTwo(String text, int want) {
        DUE.is("anyTwo() of " + text, Due.told(text).anyTwo(), want);
    }

    private static void anyTwo() {
        DUE.sentence("ANY TWO: for each two NAMES another one BEATS both.");
        anyTwo(SEVEN, -1);
        // without one of the seven some two are beaten by no other one
        String[] lines = SEVEN.split(";");
        for (String without : lines) {
            DiceRing six = Due.told(SEVEN.replace(without + ";", ""));
            int two = six.anyTwo();
            DUE.is("two of six are there", two >= 1 && two / 100 < two % 100 && two % 100 < 6, true);
            for (int other = 0; other < 6; other++) {
                int both = 1 << two / 100 | 1 << two % 100;
                DUE.is("one that beats both", (six.beaten(other) & both) == both, false);
            }
        }
        DUE.sentence("NONE: ANY TWO (also with fewer than two NAMES).");
        anyTwo("", -1);
        anyTwo("let a=1;", -1);
        anyTwo(SEVEN, -1);
        DUE.sentence("Two NAMES (100 times the lesser and the other one, the first such) that no other one BEATS both;");
        anyTwo("let a=1;let b=1;", 1);
        anyTwo("let a=1;let b=2;", 1);
        anyTwo("let a=2;let b=1;", 1);
        anyTwo("let a=1;let b=1;let c=2;", 2);
        anyTwo("let a=1;let b=2;let c=2;", 1);
        anyTwo("let a=2;let b=1;let c=1;", 1);
        anyTwo(THREE, 1);
        anyTwo(row(12), 11);
        anyTwo(row(11) + "die z 0;", 10);
        anyTwo(SEVEN + "let h=30;", 7);
        anyTwo("let h=30;" + SEVEN, 1);
        anyTwo("let h=0;" + SEVEN, -1);
        anyTwo("let y=0;let z=0;" + SEVEN + "let h=0;let i=0;let j=0;", -1);
        anyTwo("let y=0;let z=0;" + THREE, 203);
        anyTwo(SEVEN.replace("die ", "die x") + "let a=0;let b=0;let c=0;let d=0;let e=0;", -1);
    }

    private static void picks(DiceRing x, int set, int... shares) {
        int holders = 0;
        for (int share : shares) {
            holders += share > 0 ? 1 : 0;
        }
        DUE.is("picks(" + set + ")", x.picks(set), holders);
        for (int k = 0; k < 12; k++) {
            DUE.is("pickAt(" + k + ") of picks(" + set + ")", x.pickAt(k), k < shares.length ? shares[k] : 0);
        }
        for (int k : new int[] {-1, 12, 13, Integer.MIN_VALUE, Integer.MAX_VALUE}) {
            DUE.is("pickAt(" + k + ") of picks(" + set + ")", x.pickAt(k), 0);
        }
    }

    private static void picks() {
        DUE.sentence("each has a share, a whole number, so that against them together no NAME of the set BEATS more shares than BEAT it:");
        DiceRing x = Due.told(row(12));
        picks(x, 1, 1);
        picks(x, 1 << 11, 0, 0, 0, 0, 0, 0, 0, 0, 0, 0, 0, 1);
        picks(x, 3, 0, 1);
        picks(x, 1 + (1 << 11), 0, 0, 0, 0, 0, 0, 0, 0, 0, 0, 0, 1);
        picks(x, 127, 0, 0, 0, 0, 0, 0, 1);
        picks(x, 127 << 5, 0, 0, 0, 0, 0, 0, 0, 0, 0, 0, 0, 1);
        picks(Due.told(THREE), 7, 1, 1, 1);
        picks(Due.told(THREE + "let d=9;"), 15, 0, 0, 0, 1);
        picks(Due.told(THREE + "let d=0;"), 15, 1, 1, 1);
        // two rounds of three in four: against the one the fourth wins nothing, against the other one b does
        String d = "die d 0 6 8;";
        DiceRing y = Due.told(THREE + d);
        DUE.is("threes()", y.threes(), 2);
        DUE.is("beaten(3)", y.beaten(3), 4);
        picks(y, 15, 1, 1, 1);
        picks(Due.told(d + THREE), 15, 0, 1, 1, 1);
        picks(Due.told("die a 2 4 9;" + d + "die c 3 5 7;die b 1 6 8;"), 15, 1, 0, 1, 1);
        picks(Due.told(SEVEN), 127, 1, 1, 1, 1, 1, 1, 1);
        DUE.sentence("of NAME k by the latest picks() that told one; 0: it has none (also ahead of any).");
        DiceRing z = Due.told(THREE);
        DUE.is("pickAt(0) ahead of any", z.pickAt(0), 0);
        picks(z, 7, 1, 1, 1);
        picks(z, 5, 0, 0, 1);
        picks(z, 2, 0, 1);
        DUE.is("picks(0)", z.picks(0), -2);
        DUE.is("pickAt(1) yet", z.pickAt(1), 1);
    }

    private static void setsThatAreNone() {
        DUE.sentence("-2: no such set, an empty one, or more than 7.");
        DiceRing x = Due.told(row(12));
        DUE.is("picks(0)", x.picks(0), -2);
        DUE.is("picks of seven", x.picks(127), 1);
        DUE.is("picks of eight", x.picks(255), -2);
        DUE.is("picks of twelve", x.picks(4095), -2);
        DUE.is("picks(1 << 11)", x.picks(1 << 11), 1);
        DUE.is("picks(1 << 12)", x.picks(1 << 12), -2);
        DUE.is("picks(1 << 12 and 1)", x.picks(1 << 12 | 1), -2);
        DUE.is("picks(-1)", x.picks(-1), -2);
        DUE.is("picks(least)", x.picks(Integer.MIN_VALUE), -2);
        DUE.is("picks(least and 1)", x.picks(Integer.MIN_VALUE | 1), -2);
        DUE.is("picks(most)", x.picks(Integer.MAX_VALUE), -2);
        DiceRing three = Due.told(THREE);
        DUE.is("picks(4)", three.picks(4), 1);
        DUE.is("picks(8)", three.picks(8), -2);
        DUE.is("picks(15)", three.picks(15), -2);
        DUE.is("picks(1) of an empty TABLE", new DiceRing().picks(1), -2);
        DUE.is("picks(0) of an empty TABLE", new DiceRing().picks(0), -2);
        // what is no set is not looked at any further
        DUE.is("picks of eight, two of them even", Due.told(row(11) + "let z=0;").picks(2048 + 127), -2);
        DUE.is("picks of two that are even and one that is none", Due.told("let a=1;let b=1;").picks(7), -2);
    }

    private static void evenNames() {
        DUE.sentence("no two of which are EVEN (as often GREATER as LESS):");
        DiceRing x = Due.told("die a 1 4;die b 2 3;die c 2 4;let d=9;let e=9;let f=0;let g=0;");
        DUE.is("picks(3)", x.picks(3), -1);
        DUE.is("picks(5)", x.picks(5), 1);
        DUE.is("picks(24)", x.picks(24), -1);
        DUE.is("picks(31)", x.picks(31), -1);
        DUE.is("picks(13)", x.picks(13), 1);
        // two that get no share are no less even
        DUE.is("picks(104)", x.picks(104), -1);
        DUE.is("picks(96)", x.picks(96), -1);
        DUE.is("picks(40)", x.picks(40), 1);
        DUE.sentence("how many have a share; NONE: two are EVEN;");
        DUE.is("picks of a RING of four", Due.told(round(0, 1, 2, 3)).picks(15), -1);
        DUE.is("picks of three of it", Due.told(round(0, 1, 2, 3)).picks(7), -1);
        DUE.is("picks of two of it that are next", Due.told(round(0, 1, 2, 3)).picks(3), 1);
        DUE.is("picks of two of it that are not", Due.told(round(0, 1, 2, 3)).picks(5), -1);
    }

    private static void leastShares() {
        DUE.sentence("there is one row of such shares in least numbers.");
        String five = "die a 3 11 12 17 19;die b 5 6 13 15 20;die c 1 2 18 21 23;die d 7 8 10 14 16;die e 0 4 9 22 24;";
        picks(Due.told(five), 31, 1, 1, 3, 1, 3);
        String seven = "die a 3 10 11 29 34;die b 0 1 19 31 33;die c 2 13 17 20 32;die d 7 8 16 27 30;"
                + "die e 9 15 18 21 24;die f 4 5 23 25 26;die g 6 12 14 22 28;";
        picks(Due.told(seven), 127, 3, 3, 1, 1, 5, 7, 5);
        picks(Due.told("let x=0;let y=60;let z=1;" + seven), 127 << 3, 0, 0, 0, 3, 3, 1, 1, 5, 7, 5);
    }
}
