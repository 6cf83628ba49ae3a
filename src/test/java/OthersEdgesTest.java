import java.util.ArrayList;
import java.util.Arrays;
import java.util.List;
import java.util.Random;

/** Sentence by sentence, what the document says of OTHER FACES: promises 20 and 21. */
public final class OthersEdgesTest {
    private static final Due DUE = new Due("OthersEdgesTest");
    private static final String SIX = "die a 1 2 3 4 5 6;";
    private static final String EIGHT = "die a 1 2 3 4 5 6 7 8;";

    public static void main(String[] args) {
        eightFacesAtMost();
        asManyPairsOfFaces();
        fromTheLeastToSixty();
        toldLeast();
        sameSums();
        pAtMostQ();
        notBehind();
        inOrder();
        belowAHundred();
        noSuchFace();
        theLatest();
        DUE.end();
    }

    private static void others(DiceRing x, int a, int b, int p, int q, int least, int want) {
        DUE.is("others(" + a + ", " + b + ", " + p + ", " + q + ", " + least + ")", x.others(a, b, p, q, least), want);
    }

    private static void none(DiceRing x, int a, int b, int p, int q, int least) {
        others(x, a, b, p, q, least, -1);
    }

    private static void pair(DiceRing x, int k, int[] faces, int[] otherFaces) {
        for (int i = 0; i < faces.length; i++) {
            DUE.is("otherAt(" + k + ", 0, " + i + ")", x.otherAt(k, 0, i), faces[i]);
        }
        for (int i = 0; i < otherFaces.length; i++) {
            DUE.is("otherAt(" + k + ", 1, " + i + ")", x.otherAt(k, 1, i), otherFaces[i]);
        }
        DUE.isThrown("otherAt(" + k + ", 0, behind)", () -> x.otherAt(k, 0, faces.length));
        DUE.isThrown("otherAt(" + k + ", 1, behind)", () -> x.otherAt(k, 1, otherFaces.length));
        DUE.isThrown("otherAt(" + k + ", 0, -1)", () -> x.otherAt(k, 0, -1));
        DUE.isThrown("otherAt(" + k + ", 1, -1)", () -> x.otherAt(k, 1, -1));
    }

    private static int[] f(int... faces) {
        return faces;
    }

    /** So many like FACES. */
    private static int[] like(int many, int face) {
        int[] faces = new int[many];
        Arrays.fill(faces, face);
        return faces;
    }

    private static void eightFacesAtMost() {
        DUE.sentence("OTHER FACES of two dice a and b (of 8 FACES at most each):");
        DiceRing x = Due.told("die a 1 2 3 4 5 6 7 8;die b 1 2 3 4 5 6 7 8 9;die c 1;let d=c;let e=1;"
                + "die f 1 2 3 4 5 6 7 8 9 10 11 12;");
        others(x, 0, 0, 8, 8, 1, 4);
        others(x, 0, 2, 1, 8, 1, 1);
        others(x, 2, 0, 1, 8, 1, 1);
        others(x, 2, 2, 1, 1, 1, 1);
        none(x, 1, 2, 1, 9, 1);
        none(x, 2, 1, 1, 9, 1);
        none(x, 1, 2, 3, 3, 1);
        none(x, 1, 1, 9, 9, 1);
        none(x, 5, 2, 1, 12, 1);
        none(x, 2, 5, 3, 4, 1);
        // what is no die has no FACES
        none(x, 3, 2, 1, 1, 1);
        none(x, 2, 3, 1, 1, 1);
        none(x, 4, 2, 1, 1, 1);
        none(x, 2, 4, 1, 1, 1);
        none(x, 3, 3, 1, 1, 1);
        none(x, 4, 4, 0, 0, 1);
        none(x, 6, 2, 1, 1, 1);
        none(x, 2, 6, 1, 1, 1);
        none(x, -1, 2, 1, 1, 1);
        none(x, 2, -1, 1, 1, 1);
        none(x, Integer.MAX_VALUE, 2, 1, 1, 1);
        none(x, 2, Integer.MIN_VALUE, 1, 1, 1);
        none(new DiceRing(), 0, 0, 1, 1, 1);
    }

    private static void asManyPairsOfFaces() {
        DUE.sentence("dice x and y of p and q FACES (p times q is FACES of a times FACES of b),");
        String dice = EIGHT + "die b 1 2 3;die c 7;";
        for (int p = -2; p <= 65; p++) {
            DiceRing x = Due.told(dice);
            for (int q = -2; q <= 65; q++) {
                boolean told = p >= 1 && p <= q && p * q == 64;
                DUE.is("others(0, 0, " + p + ", " + q + ", 1) is as told", x.others(0, 0, p, q, 1) != -1, told);
                boolean prime = p == 1 && q == 3;
                DUE.is("others(1, 2, " + p + ", " + q + ", 1) is as told", x.others(1, 2, p, q, 1) != -1, prime);
            }
        }
        DiceRing x = Due.told(dice);
        none(x, 2, 2, 0, 0, 1);
        none(x, 2, 2, -1, -1, 1);
        none(x, 0, 0, -8, -8, 1);
        // p times q goes around to what it should be
        none(x, 0, 0, 65536, 65536, 1);
        none(x, 0, 0, 1 << 30, 1 << 30, 1);
        none(x, 0, 0, 8, 8 + (1 << 29), 1);
        none(x, 2, 2, 1, 1 + (1 << 31), 1);
        none(x, 0, 0, Integer.MIN_VALUE, Integer.MIN_VALUE, 1);
    }

    private static void fromTheLeastToSixty() {
        DUE.sentence("all FACES from a told least one to 60,");
        DiceRing x = Due.told("die a 60;die b 59;die c 0;die d 0 60;die e 0 59;die f 0 30;die g 1;");
        others(x, 0, 0, 1, 1, 0, 1);
        pair(x, 0, f(60), f(60));
        others(x, 0, 0, 1, 1, 60, 1);
        others(x, 0, 1, 1, 1, 0, 1);
        pair(x, 0, f(59), f(60));
        others(x, 0, 1, 1, 1, 59, 1);
        others(x, 0, 1, 1, 1, 60, 0);
        others(x, 2, 2, 1, 1, 0, 1);
        pair(x, 0, f(0), f(0));
        others(x, 2, 2, 1, 1, 1, 0);
        others(x, 2, 6, 1, 1, 0, 1);
        pair(x, 0, f(0), f(1));
        others(x, 2, 6, 1, 1, 1, 0);
        // one die whose FACES are 60 apart stands nowhere else, one with 59 twice
        others(x, 2, 3, 1, 2, 0, 1);
        pair(x, 0, f(0), f(0, 60));
        others(x, 6, 3, 1, 2, 0, 1);
        pair(x, 0, f(1), f(0, 60));
        others(x, 2, 4, 1, 2, 0, 1);
        others(x, 6, 4, 1, 2, 0, 2);
        pair(x, 0, f(0), f(1, 60));
        pair(x, 1, f(1), f(0, 59));
        others(x, 0, 3, 1, 2, 0, 1);
        pair(x, 0, f(60), f(0, 60));
        others(x, 0, 4, 1, 2, 0, 2);
        pair(x, 0, f(59), f(1, 60));
        pair(x, 1, f(60), f(0, 59));
        // FACES 0 30 60 90 and 0 60 cannot be, as 90 is none; 0 30 and 0 60 can
        others(x, 5, 3, 2, 2, 0, 1);
        pair(x, 0, f(0, 30), f(0, 60));
        others(x, 5, 3, 1, 4, 0, 0);
        others(x, 5, 5, 1, 4, 0, 1);
        pair(x, 0, f(0), f(0, 30, 30, 60));
        others(x, 5, 5, 1, 4, 1, 0);
        DiceRing high = Due.told("die a 58 60;die b 57 57 58 58 59 59;die c 28 60;die d 58 59 60;");
        others(high, 0, 1, 2, 6, 57, 2);
        pair(high, 0, f(57, 59), f(58, 58, 59, 59, 60, 60));
        pair(high, 1, f(58, 60), f(57, 57, 58, 58, 59, 59));
        others(high, 0, 1, 2, 6, 58, 0);
        others(high, 3, 3, 3, 3, 0, 1);
        pair(high, 0, f(58, 59, 60), f(58, 59, 60));
    }

    private static void toldLeast() {
        DUE.sentence("none below a least one (0 to 60): how many pairs; NONE: not as told.");
        DiceRing x = Due.told("die a 30;die b 60;");
        for (int least = 0; least <= 60; least++) {
            others(x, 0, 0, 1, 1, least, Math.max(0, 31 - least));
            others(x, 1, 1, 1, 1, least, 1);
        }
        for (int least : new int[] {-1, 61, 62, Integer.MIN_VALUE, Integer.MAX_VALUE}) {
            none(x, 0, 0, 1, 1, least);
        }
        // the least one binds x and y
        DiceRing y = Due.told("die a 1 2;die b 5;");
        others(y, 0, 1, 1, 2, 0, 7);
        pair(y, 0, f(0), f(6, 7));
        pair(y, 6, f(6), f(0, 1));
        others(y, 0, 1, 1, 2, 1, 5);
        pair(y, 0, f(1), f(5, 6));
        pair(y, 4, f(5), f(1, 2));
        others(y, 0, 1, 1, 2, 3, 1);
        pair(y, 0, f(3), f(3, 4));
        others(y, 0, 1, 1, 2, 4, 0);
        DiceRing six = Due.told(SIX);
        int[] pairs = {5, 2, 0, 0};
        for (int least = 0; least < pairs.length; least++) {
            others(six, 0, 0, 6, 6, least, pairs[least]);
        }
    }

    /** All that there are, against all there can be, tried one by one. */
    private static void sameSums() {
        DUE.sentence("so that x and y added have the WAYS of a and b added;");
        // 0 1 goes into these sums too, but with less than no FACES of one number on the other side
        DiceRing x = Due.told("die a 0 3;die b 0 5;");
        others(x, 0, 1, 2, 2, 0, 1);
        pair(x, 0, f(0, 3), f(0, 5));
        others(x, 1, 0, 1, 4, 0, 1);
        pair(x, 0, f(0), f(0, 3, 5, 8));
        String[] dice = {"die a 0 3;die b 0 5;", "die a 5 8;die b 7 5 6 7 3;", "die a 0;die b 3 0 4 3 5 3;", "die a 2 1 3;die b 0 1 3 3 2 3;",
            "die a 0 4 2 4 4 6 7 0;die b 2 2;", "die a 4 6 1 2 4 6 3;die b 6 5 6 5 5 1 5 6;", "die a 3 5;die b 5 5 5 0 5 5 5 0;",
            "die a 1 2 0 0 0 1 0;die b 1 0 2 1 1 1 1 2;", "die a 1 1;die b 1 1 1;", EIGHT + "die b 1 2 3 4;", SIX + "die b 0 0 60 60;"};
        for (String text : dice) {
            compareAll(text);
        }
        Random random = new Random(11);
        for (int i = 0; i < 60; i++) {
            int most = random.nextInt(3) == 0 ? 3 : random.nextInt(9);
            int from = random.nextInt(3) == 0 ? 61 - most - random.nextInt(2) : random.nextInt(4);
            StringBuilder text = new StringBuilder();
            for (String name : new String[] {"a", "b"}) {
                text.append("die ").append(name);
                for (int faces = 1 + random.nextInt(random.nextInt(3) == 0 ? 8 : 5); faces > 0; faces--) {
                    text.append(' ').append(Math.min(60, from + random.nextInt(most + 1)));
                }
                text.append(';');
            }
            compareAll(text.toString());
        }
    }

    private static void compareAll(String text) {
        DiceRing x = Due.told(text);
        int all = x.about(0, 0) * x.about(1, 0);
        for (int p = 1; p * p <= all; p++) {
            if (all % p == 0) {
                compare(x, text, p, all / p);
            }
        }
    }

    private static void compare(DiceRing x, String text, int p, int q) {
        int lowest = Math.min(x.about(0, 1), x.about(1, 1));
        for (int least = Math.max(0, lowest - 1); least <= lowest + 1 && least <= 60; least++) {
            DiceRing y = Due.told(text);
            List<int[][]> want = ModelSearch.others(faces(y, 0), faces(y, 1), p, q, least);
            others(y, 0, 1, p, q, least, want.size());
            for (int k = 0; k < want.size() && k < 5; k++) {
                long wrong = 0;
                for (int i = 0; i < p; i++) {
                    wrong += y.otherAt(k, 0, i) == want.get(k)[0][i] ? 0 : 1;
                }
                for (int i = 0; i < q; i++) {
                    wrong += y.otherAt(k, 1, i) == want.get(k)[1][i] ? 0 : 1;
                }
                DUE.is("FACES of pair " + k + " of " + text + " that are wrong", wrong, 0);
            }
        }
    }

    private static List<Integer> faces(DiceRing x, int k) {
        List<Integer> faces = new ArrayList<>();
        for (int n = x.about(k, 1); n <= x.about(k, 2); n++) {
            for (long i = x.ways(k, n); i > 0; i--) {
                faces.add(n);
            }
        }
        return faces;
    }

    private static void pAtMostQ() {
        DUE.sentence("p is at most q;");
        DiceRing x = Due.told(SIX + "die b 1 2 3 4;die c 1;");
        others(x, 0, 0, 6, 6, 1, 2);
        others(x, 0, 0, 4, 9, 1, 3);
        none(x, 0, 0, 9, 4, 1);
        others(x, 1, 1, 4, 4, 1, 2);
        none(x, 1, 0, 6, 4, 1);
        others(x, 1, 2, 2, 2, 1, 1);
        others(x, 1, 2, 1, 4, 1, 1);
        none(x, 1, 2, 4, 1, 1);
        none(x, 0, 0, 36, 1, 1);
        none(x, 0, 0, 7, 6, 1);
        none(x, 0, 0, 6, 5, 1);
    }

    private static void notBehind() {
        DUE.sentence("of p = q just those in which x's FACES, rising, are not behind y's (FACE by FACE, where they first are unlike x's is less).");
        DiceRing x = Due.told("die a 0 1;die b 0 2;die c 0 0;die d 1 1;die e 3 3;die f 4 3;");
        others(x, 0, 1, 2, 2, 0, 1);
        pair(x, 0, f(0, 1), f(0, 2));
        others(x, 1, 0, 2, 2, 0, 1);
        pair(x, 0, f(0, 1), f(0, 2));
        // x and y that are alike are a pair, and once
        others(x, 0, 0, 2, 2, 0, 1);
        pair(x, 0, f(0, 1), f(0, 1));
        others(x, 2, 2, 2, 2, 0, 1);
        pair(x, 0, f(0, 0), f(0, 0));
        others(x, 3, 3, 2, 2, 0, 2);
        pair(x, 0, f(0, 0), f(2, 2));
        pair(x, 1, f(1, 1), f(1, 1));
        others(x, 4, 3, 2, 2, 0, 3);
        pair(x, 2, f(2, 2), f(2, 2));
        others(x, 4, 5, 2, 2, 0, 7);
        pair(x, 0, f(0, 0), f(6, 7));
        pair(x, 1, f(0, 1), f(6, 6));
        pair(x, 5, f(2, 3), f(4, 4));
        pair(x, 6, f(3, 3), f(3, 4));
        // of p that is less than q both are pairs
        others(x, 0, 3, 1, 4, 0, 2);
        pair(x, 0, f(0), f(1, 1, 2, 2));
        pair(x, 1, f(1), f(0, 0, 1, 1));
    }

    private static void inOrder() {
        DUE.sentence("In the order of x's FACES, rising, FACE by FACE, the lesser first.");
        DiceRing x = Due.told(SIX);
        others(x, 0, 0, 6, 6, 0, 5);
        pair(x, 0, f(0, 1, 1, 2, 2, 3), f(2, 4, 5, 6, 7, 9));
        pair(x, 1, f(0, 1, 2, 3, 4, 5), f(2, 3, 4, 5, 6, 7));
        pair(x, 2, f(0, 2, 3, 4, 5, 7), f(2, 3, 3, 4, 4, 5));
        pair(x, 3, f(1, 2, 2, 3, 3, 4), f(1, 3, 4, 5, 6, 8));
        pair(x, 4, f(1, 2, 3, 4, 5, 6), f(1, 2, 3, 4, 5, 6));
        DiceRing y = Due.told("die a 0 0 1 1;die b 1 1 1 1;");
        others(y, 0, 1, 2, 8, 0, 4);
        pair(y, 0, f(0, 0), f(1, 1, 1, 1, 2, 2, 2, 2));
        pair(y, 1, f(0, 1), f(1, 1, 1, 1, 1, 1, 1, 1));
        pair(y, 2, f(1, 1), f(0, 0, 0, 0, 1, 1, 1, 1));
        pair(y, 3, f(1, 2), f(0, 0, 0, 0, 0, 0, 0, 0));
    }

    /** Of dice that have more pairs than can be asked for, and of some that have fewer. */
    private static void belowAHundred() {
        DUE.sentence("Of the k-th pair (from 0, below 100) by the latest others() that was not NONE: FACE i (rising, from 0) of x (which 0), y (1).");
        String[] rows = {"24 24 25 25 25 25 26 26", "24 25 25 26 27 28 28 29"};
        boolean more = false;
        for (String row : rows) {
            String text = "die a " + row + ";die b " + row + ";";
            for (int p = 1; p <= 8; p *= 2) {
                DiceRing x = Due.told(text);
                List<int[][]> want = ModelSearch.others(faces(x, 0), faces(x, 1), p, 64 / p, 0);
                others(x, 0, 1, p, 64 / p, 0, want.size());
                more |= want.size() > 100;
                for (int k = 0; k <= want.size() && k < 105; k += k < 90 ? 9 : 1) {
                    int asked = k;
                    if (k < want.size() && k < 100) {
                        DUE.is("otherAt(" + k + ", 0, last)", x.otherAt(k, 0, p - 1), want.get(k)[0][p - 1]);
                        DUE.is("otherAt(" + k + ", 1, last)", x.otherAt(k, 1, 64 / p - 1), want.get(k)[1][64 / p - 1]);
                        DUE.is("otherAt(" + k + ", 0, 0)", x.otherAt(k, 0, 0), want.get(k)[0][0]);
                        DUE.is("otherAt(" + k + ", 1, 0)", x.otherAt(k, 1, 0), want.get(k)[1][0]);
                    } else {
                        DUE.isThrown("otherAt(" + k + ", 0, 0)", () -> x.otherAt(asked, 0, 0));
                        DUE.isThrown("otherAt(" + k + ", 1, 0)", () -> x.otherAt(asked, 1, 0));
                    }
                }
            }
        }
        DUE.is("one of them has more than 100", more, true);
        // pairs of one FACE and sixty-four do not touch one another
        DiceRing x = Due.told("die a 1 1 1 1 1 1 1 1;die b 1 1 1 1 1 1 1 1;");
        others(x, 0, 1, 1, 64, 0, 3);
        pair(x, 0, f(0), like(64, 2));
        pair(x, 1, f(1), like(64, 1));
        pair(x, 2, f(2), like(64, 0));
    }

    private static void noSuchFace() {
        DUE.sentence("NoSuchElementException: there is none such, or ahead of any.");
        DUE.isThrown("otherAt(0, 0, 0) ahead of any", () -> new DiceRing().otherAt(0, 0, 0));
        DUE.isThrown("otherAt(0, 0, 0) of a TABLE alone", () -> Due.told(SIX).otherAt(0, 0, 0));
        DiceRing x = Due.told(SIX);
        none(x, 0, 0, 6, 7, 1);
        DUE.isThrown("otherAt(0, 0, 0) after NONE alone", () -> x.otherAt(0, 0, 0));
        others(x, 0, 0, 4, 9, 1, 3);
        for (int k : new int[] {-1, 3, 99, 100, Integer.MIN_VALUE, Integer.MAX_VALUE}) {
            DUE.isThrown("otherAt(" + k + ", 0, 0)", () -> x.otherAt(k, 0, 0));
            DUE.isThrown("otherAt(" + k + ", 1, 0)", () -> x.otherAt(k, 1, 0));
        }
        for (int which : new int[] {-1, 2, 3, Integer.MIN_VALUE, Integer.MAX_VALUE}) {
            DUE.isThrown("otherAt(0, " + which + ", 0)", () -> x.otherAt(0, which, 0));
        }
        for (int i : new int[] {-1, Integer.MIN_VALUE, Integer.MAX_VALUE, 9, 10}) {
            DUE.isThrown("otherAt(0, 0, " + i + ")", () -> x.otherAt(0, 0, i));
            DUE.isThrown("otherAt(0, 1, " + i + ")", () -> x.otherAt(0, 1, i));
        }
        pair(x, 0, f(1, 2, 2, 3), f(1, 3, 3, 5, 5, 5, 7, 7, 9));
        DUE.is("otherAt(2, 0, 3)", x.otherAt(2, 0, 3) > 0, true);
        DUE.is("otherAt(2, 1, 8)", x.otherAt(2, 1, 8) > 0, true);
    }

    private static void theLatest() {
        DUE.sentence("by the latest others() that was not NONE:");
        DiceRing x = Due.told(SIX + "die b 7;");
        others(x, 0, 0, 6, 6, 1, 2);
        others(x, 1, 1, 1, 1, 6, 2);
        pair(x, 0, f(6), f(8));
        pair(x, 1, f(7), f(7));
        DUE.isThrown("otherAt(2, 0, 0)", () -> x.otherAt(2, 0, 0));
        none(x, 1, 1, 1, 2, 6);
        none(x, 1, 1, 1, 1, 61);
        none(x, 1, 2, 1, 1, 6);
        pair(x, 0, f(6), f(8));
        others(x, 1, 1, 1, 1, 8, 0);
        DUE.isThrown("otherAt(0, 0, 0) of no pair", () -> x.otherAt(0, 0, 0));
        DUE.isThrown("otherAt(0, 1, 0) of no pair", () -> x.otherAt(0, 1, 0));
    }
}
