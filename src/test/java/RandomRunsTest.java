import java.nio.charset.StandardCharsets;
import java.util.ArrayList;
import java.util.Arrays;
import java.util.Collections;
import java.util.List;
import java.util.NoSuchElementException;
import java.util.Random;

/** All promises: runs of calls made up by a seeded random source, held against the Model. */
public final class RandomRunsTest {
    private static final Due DUE = new Due("RandomRunsTest");
    private static final int RUNS = 600;
    private static final int MOST_CALLS = 512;

    private final Random random;
    private final DiceRing x = new DiceRing();
    private final Model model = new Model();
    private final List<String> done = new ArrayList<>();

    private RandomRunsTest(long seed) {
        random = new Random(seed);
    }

    public static void main(String[] args) {
        for (int seed = 1; seed <= RUNS; seed++) {
            new RandomRunsTest(seed).run();
        }
        DUE.end();
    }

    private void run() {
        while (done.size() < MOST_CALLS) {
            tell(text());
            for (int i = random.nextInt(14); i > 0; i--) {
                askSomething();
            }
        }
    }

    private void tell(String text) {
        layText(text);
        call("table");
        call("fault");
    }

    /** Half of the times a TABLE that goes well with the next question. */
    private void tellAtTimes(String text) {
        if (random.nextBoolean()) {
            tell(text);
        }
    }

    /** One call on both; beyond 512 calls answers are free, so none is made. */
    private void call(String name, int... numbers) {
        if (done.size() >= MOST_CALLS) {
            return;
        }
        done.add(name + Arrays.toString(numbers));
        long want = model.ask(name, numbers);
        long got = answer(name, numbers);
        String latest = got == want ? name : String.join(" ", done.subList(Math.max(0, done.size() - 30), done.size()));
        DUE.is(latest, got, want);
    }

    private long answer(String name, int[] n) {
        try {
            return ask(name, n);
        } catch (NoSuchElementException due) {
            return Model.THROWN;
        }
    }

    private long ask(String name, int[] n) {
        switch (name) {
            case "feed": return x.feed(n[0], n[1], n[2], n[3], n[4]);
            case "end": return x.end(n[0]) ? 1 : 0;
            case "table": return x.table();
            case "fault": return x.fault();
            case "about": return x.about(n[0], n[1]);
            case "all": return x.all(n[0]);
            case "ways": return x.ways(n[0], n[1]);
            case "mean": return x.mean(n[0], n[1]);
            case "against": return x.against(n[0], n[1], n[2], n[3]);
            case "beats": return x.beats(n[0], n[1], n[2]);
            case "beaten": return x.beaten(n[0]);
            case "ring": return x.ring();
            case "ringAt": return x.ringAt(n[0]);
            case "threes": return x.threes();
            case "top": return x.top();
            case "anyTwo": return x.anyTwo();
            case "picks": return x.picks(n[0]);
            case "pickAt": return x.pickAt(n[0]);
            case "others": return x.others(n[0], n[1], n[2], n[3], n[4]);
            case "otherAt": return x.otherAt(n[0], n[1], n[2]);
            case "fair": return x.fair();
            case "order": return x.order(n[0]);
            case "placed": return x.placed(n[0], n[1]);
            case "firstWord": return x.firstWord(n[0], n[1], n[2]);
            case "laid": return x.laid(n[0]);
            case "letter": return x.letter(n[0]);
            case "rolled": return x.rolled();
            case "rolledBy": return x.rolledBy(n[0]);
            case "meets": return x.meets(n[0], n[1]);
            case "apart": return x.apart(n[0], n[1]);
            case "shift": return x.shift(n[0], n[1]);
            case "count": return x.count(n[0]);
            default: throw new IllegalArgumentException(name);
        }
    }

    // ---- texts

    private String oneOf(String... parts) {
        return parts[random.nextInt(parts.length)];
    }

    private int oneOf(int... numbers) {
        return numbers[random.nextInt(numbers.length)];
    }

    private String blank() {
        return oneOf("", " ", "", " ", "\n", "  ");
    }

    private String text() {
        List<String> words = Arrays.asList("a", "b", "c", "d", "e", "f", "g", "h", "abc", "abcdef", "q", "z", "dies", "k");
        Collections.shuffle(words, random);
        int names = oneOf(0, 1, 2, 3, 3, 4, 5, 6, 7, 8, 10, 12, 13);
        int most = oneOf(3, 6, 9, 20, 60);
        int sums = oneOf(0, 1, 1, 2, 3);
        StringBuilder text = new StringBuilder();
        List<String> told = new ArrayList<>();
        for (String word : words.subList(0, names)) {
            text.append(blank());
            if (told.isEmpty() || random.nextInt(4) >= sums) {
                text.append(die(word, most));
            } else {
                text.append("let ").append(word).append(blank()).append('=').append(sum(told, 0));
            }
            text.append(blank()).append(';');
            told.add(word);
        }
        String good = text.append(blank()).toString();
        String bent = random.nextInt(3) == 0 ? bend(good) : good;
        return random.nextInt(15) == 0 ? stretch(bent) : bent;
    }

    /** Dice without like FACES, one of each row of numbers for each: many of them go round. */
    private String roundText() {
        int each = oneOf(3, 4, 5);
        int names = oneOf(3, 4, 5, 6, 7, 7, 9, 12);
        List<StringBuilder> lines = new ArrayList<>();
        for (int k = 0; k < names; k++) {
            lines.add(new StringBuilder("die ").append((char) ('a' + k)));
        }
        for (int i = 0; i < each; i++) {
            List<StringBuilder> turn = new ArrayList<>(lines);
            Collections.shuffle(turn, random);
            for (int k = 0; k < names; k++) {
                turn.get(k).append(' ').append(i * names + k);
            }
        }
        return String.join(";", lines) + ";";
    }

    /** Dice whose FACES go up evenly: many have OTHER FACES. */
    private String plainText() {
        StringBuilder text = new StringBuilder();
        for (String word : List.of("a", "b", "c")) {
            text.append("die ").append(word);
            int step = oneOf(1, 1, 2, 3, 8);
            int faces = oneOf(1, 2, 4, 4, 6, 6, 8);
            int from = random.nextInt(oneOf(4, 4, 61 - step * (faces - 1)));
            for (int i = 0; i < faces; i++) {
                text.append(' ').append(from + i * step);
            }
            text.append(';');
        }
        return text.toString();
    }

    private String die(String word, int most) {
        StringBuilder die = new StringBuilder("die ").append(word);
        for (int i = oneOf(1, 2, 3, 3, 3, 3, 4, 5, 6, 6, 8, 12); i > 0; i--) {
            die.append(' ').append(random.nextInt(most + 1));
        }
        return die.toString();
    }

    private String sum(List<String> told, int open) {
        StringBuilder sum = new StringBuilder(oneOf("", "", "", "-")).append(blank()).append(term(told, open));
        for (int i = oneOf(0, 0, 1, 1, 2, 3); i > 0; i--) {
            sum.append(blank()).append(oneOf("+", "-")).append(blank()).append(term(told, open));
        }
        return sum.append(blank()).toString();
    }

    private String term(List<String> told, int open) {
        return random.nextInt(6) == 0 ? 1 + random.nextInt(oneOf(2, 3, 6)) + " of " + unit(told, open) : unit(told, open);
    }

    private String unit(List<String> told, int open) {
        int kind = random.nextInt(10);
        if (kind < 4) {
            return told.get(random.nextInt(told.size()));
        }
        if (kind < 6 || open > 2) {
            return Integer.toString(oneOf(0, 1, 2, 3, 5, 10, random.nextInt(62)));
        }
        if (kind < 8) {
            return "(" + sum(told, open + 1) + ")";
        }
        return oneOf("high", "low", "more") + blank() + "(" + sum(told, open + 1) + "," + sum(told, open + 1) + ")";
    }

    private String bend(String text) {
        StringBuilder bent = new StringBuilder(text);
        for (int i = oneOf(1, 1, 1, 2, 3); i > 0; i--) {
            int at = random.nextInt(bent.length() + 1);
            switch (random.nextInt(4)) {
                case 0:
                    bent.delete(at, Math.min(at + 1, bent.length()));
                    break;
                case 1:
                    bent.insert(at, oneOf(";", "(", ")", " ", "7", "61", "99", "of", "die", "let", "high(", "-", ".", "a",
                            " 1 of ", " 13 ", "A", "\t", "=", ",", "\u00e4", "\0"));
                    break;
                case 2:
                    bent.replace(at, Math.min(at + 1, bent.length()), oneOf(";", "(", "a", "9", " ", ",", "+", "of"));
                    break;
                default:
                    bent.setLength(at);
                    break;
            }
        }
        return bent.toString();
    }

    /** Blanks ahead or behind bring a text to the edge of 500 bytes and beyond. */
    private String stretch(String text) {
        int room = Math.max(0, oneOf(499, 500, 501, 503, 520, 540) - text.length());
        String behind = oneOf("", ";", "die", "die a 3;", "let");
        return random.nextBoolean() ? " ".repeat(room) + text : text + " ".repeat(room) + behind;
    }

    private void layText(String text) {
        byte[] bytes = text.getBytes(StandardCharsets.ISO_8859_1);
        layBytes(Arrays.copyOf(bytes, Math.min(540, bytes.length)));
    }

    private void layBytes(byte[] bytes) {
        call("end", 0);
        for (int i = 0; i < bytes.length; i += 20) {
            int[] numbers = new int[5];
            for (int j = 0; j < 20; j++) {
                numbers[j / 4] = numbers[j / 4] << 8 | (i + j < bytes.length ? bytes[i + j] & 255 : random.nextInt(256));
            }
            call("feed", numbers);
        }
        call("end", bytes.length);
    }

    private void layNumbers(List<Integer> numbers) {
        byte[] bytes = new byte[numbers.size()];
        for (int i = 0; i < bytes.length; i++) {
            bytes[i] = (byte) (int) numbers.get(i);
        }
        layBytes(bytes);
    }

    // ---- questions

    private int name() {
        int names = Math.max(1, model.names().size());
        return random.nextInt(8) > 0 ? random.nextInt(names) : oneOf(-1, names, 12, 31, Integer.MIN_VALUE, Integer.MAX_VALUE);
    }

    private void askSomething() {
        switch (random.nextInt(12)) {
            case 0: case 1: case 2: askOne(); break;
            case 3: case 4: askTwo(); break;
            case 5: askNet(); break;
            case 6: askPicks(); break;
            case 7: askOthers(); break;
            case 8: askFair(); break;
            case 9: askFirstWord(); break;
            case 10: askLaid(); break;
            default: askRolled(); break;
        }
    }

    private void askOne() {
        call("about", name(), oneOf(0, 1, 2, 0, 1, 2, 3, -1));
        call("all", name());
        call("ways", name(), oneOf(random.nextInt(30), random.nextInt(420) - 210, Integer.MAX_VALUE, Integer.MIN_VALUE));
        call("mean", name(), oneOf(0, 1, 2, 3, 0, 1, 2, 3, 4, -1));
        call("meets", name(), oneOf(0, 1, 2, 3, 10, 50, 200, 201, -1, random.nextInt(201)));
        call("count", oneOf(0, 1, 2, 3, -1));
    }

    private void askTwo() {
        call("against", name(), name(), oneOf(1, 1, 2, 3, 4, 0, 5), oneOf(0, 1, 2, 3, -1));
        call("beats", name(), name(), oneOf(1, 1, 2, 3, 4, 0, 5));
        call("apart", name(), name());
        call("shift", name(), name());
        call("feed", random.nextInt(), random.nextInt(), 0, -1, random.nextInt());
        call("end", oneOf(0, 5, 10, 20, 21, 540, -1));
    }

    private void askNet() {
        tellAtTimes(roundText());
        call("beaten", name());
        call("ring");
        for (int i = -1; i < 5; i++) {
            call("ringAt", i);
        }
        call("threes");
        call("top");
        call("anyTwo");
    }

    private void askPicks() {
        tellAtTimes(roundText());
        int every = (1 << model.names().size()) - 1;
        call("picks", oneOf(every, random.nextInt(every + 1), random.nextInt(every + 1), random.nextInt(every + 1), every + 1,
                -1, 0));
        for (int i = 0; i < model.names().size(); i++) {
            call("pickAt", i);
        }
        call("pickAt", name());
    }

    private void askOthers() {
        tellAtTimes(plainText());
        int a = smallDie();
        int b = smallDie();
        int faces = facesOf(a) * facesOf(b);
        int p = Math.max(1, (int) Math.sqrt(faces));
        for (int i = random.nextInt(3); i >= 0 || faces % p != 0; i--) {
            p = faces % p == 0 && i <= 0 ? p : Math.max(1, p - 1);
        }
        int q = oneOf(faces / p, faces / p, faces / p, faces / p, faces, 0, -1, 7);
        call("others", a, b, random.nextInt(20) == 0 ? q : p, random.nextInt(20) == 0 ? p : q,
                oneOf(0, 0, 0, 1, 1, 2, lowest(a), lowest(b), random.nextInt(61), 61, -1));
        for (int i = 0; i < 6; i++) {
            call("otherAt", oneOf(0, 0, 1, 2, 50, 99, 100, -1), oneOf(0, 1, 0, 1, 2, -1), oneOf(0, 1, 2, 3, q - 1, q, -1));
        }
    }

    private int facesOf(int k) {
        return k < 0 || k >= model.names().size() ? 0 : model.names().get(k).faces.size();
    }

    private int lowest(int k) {
        return facesOf(k) == 0 ? 0 : Collections.min(model.names().get(k).faces);
    }

    private int smallDie() {
        int k = name();
        for (int i = 0; i < 8 && random.nextInt(20) > 0 && (facesOf(k) < 1 || facesOf(k) > 8); i++) {
            k = name();
        }
        return k;
    }

    private void askFair() {
        int n = 2 + random.nextInt(3);
        List<Integer> word = new ArrayList<>();
        for (int f = 1 + random.nextInt(n == 2 ? 6 : 4); f > 0; f--) {
            for (int d = 0; d < n; d++) {
                word.add('a' + d);
            }
        }
        Collections.shuffle(word, random);
        if (random.nextInt(3) == 0 && n == 2) {
            List<Integer> turned = new ArrayList<>(word);
            Collections.reverse(turned);
            word.addAll(turned);
        }
        if (random.nextInt(5) == 0) {
            word.set(random.nextInt(word.size()), oneOf('`', 'a', 'b', 'd', 'e', ' ', 0, 255));
        }
        layNumbers(word);
        call("fair");
        call("order", oneOf(12, 21));
        call("order", oneOf(123, 132, 213, 231, 312, 321));
        call("order", oneOf(1234, 4321, 2413, 3142, 11, 0, -12, 124, 12345));
        call("placed", random.nextInt(n + 1), random.nextInt(n + 1));
        call("placed", random.nextInt(n), random.nextInt(n));
    }

    private void askFirstWord() {
        call("firstWord", oneOf(2, 3, 4, 2, 3, 1, 5), oneOf(1, 2, 3, 4, 5, 6, 0, 7), oneOf(0, 1, 2, 3, 4, 5, 6, 7, 8, -1));
        for (int i = 0; i < 12; i += 1 + random.nextInt(3)) {
            call("letter", i);
        }
    }

    private void askLaid() {
        int n = oneOf(2, 3, 4, 3, 4, 1, 5);
        List<Integer> pairs = new ArrayList<>();
        for (int a = 0; a < n; a++) {
            for (int b = a + 1; b < n; b++) {
                if (random.nextInt(5) > 0) {
                    boolean first = random.nextBoolean();
                    pairs.add(first ? a : b);
                    pairs.add(first ? b : a);
                }
            }
        }
        if (random.nextInt(10) == 0) {
            pairs.addAll(List.of(0, 1, 1, 0));
        }
        if (random.nextInt(10) == 0) {
            pairs.add(random.nextInt(n + 1));
        }
        layNumbers(pairs);
        call("laid", n);
        for (int i = -1; i < 13; i += 1 + random.nextInt(2)) {
            call("letter", i);
        }
    }

    private void askRolled() {
        List<Integer> numbers = new ArrayList<>(List.of(random.nextInt(63)));
        for (ModelText.Name name : model.names()) {
            if (!name.faces.isEmpty() && (numbers.size() == 1 || random.nextInt(3) == 0)) {
                numbers = new ArrayList<>(name.faces);
            }
        }
        List<Integer> row = new ArrayList<>();
        for (int i = oneOf(0, 1, 2, 3, 5, 20, 21); i > 0; i--) {
            row.add(random.nextInt(60) == 0 ? random.nextInt(63) : numbers.get(random.nextInt(numbers.size())));
        }
        layNumbers(row);
        call("rolled");
        for (int i = 0; i < model.names().size(); i++) {
            call("rolledBy", i);
        }
        call("rolledBy", name());
    }
}
