import java.math.BigInteger;
import java.util.ArrayList;
import java.util.List;
import java.util.Map;
import java.util.Set;
import java.util.TreeMap;
import java.util.function.IntBinaryOperator;

/** A text read as a TABLE, for the Model: all TOKENS first, then LINE by LINE. */
final class ModelText {
    /** A NAME as told; no FACES, if it is no die. */
    static final class Name {
        final String word;
        final List<Integer> faces;
        final TreeMap<Integer, BigInteger> ways;

        Name(String word, List<Integer> faces, TreeMap<Integer, BigInteger> ways) {
            this.word = word;
            this.faces = faces;
            this.ways = ways;
        }
    }

    private static final Set<String> OWN = Set.of("die", "let", "of", "high", "low", "more");
    private static final BigInteger MOST = BigInteger.valueOf(1000000000);

    /** What ends the reading: a FAULT. */
    private static final class Stop extends RuntimeException {
        private static final long serialVersionUID = 1;
    }

    final List<Name> names = new ArrayList<>();
    int kind;
    int place;

    private final List<String> tokens = new ArrayList<>();
    private final List<Integer> places = new ArrayList<>();
    private int at;
    private boolean tooMuch;

    ModelText(List<Integer> bytes) {
        StringBuilder text = new StringBuilder();
        for (int b : bytes) {
            text.append((char) b);
        }
        split(text.toString());
        try {
            while (!token().isEmpty()) {
                line();
            }
            if (bytes.size() > 500) {
                throw stop(1, 500);
            }
        } catch (Stop fault) {
            names.clear();
        }
    }

    private Stop stop(int newKind, int newPlace) {
        kind = newKind;
        place = newPlace;
        return new Stop();
    }

    private Stop stop(int newKind) {
        return stop(newKind, places.get(at));
    }

    /** The end is an empty TOKEN; what is no TOKEN is told by a question mark. */
    private void split(String text) {
        int limit = Math.min(500, text.length());
        int i = 0;
        while (i < limit) {
            char c = text.charAt(i);
            int j = i + 1;
            if (isRunSign(c)) {
                while (j < text.length() && isRunSign(text.charAt(j))) {
                    j++;
                }
            }
            if (c != ' ' && c != '\n') {
                String run = text.substring(i, j);
                tokens.add(run.matches("[a-z]{1,6}|[0-9]{1,2}|[;=+(),.-]") ? run : "?");
                places.add(i);
            }
            i = j;
        }
        for (int spare = 0; spare < 2; spare++) {
            tokens.add("");
            places.add(limit);
        }
    }

    private static boolean isRunSign(char c) {
        return c >= 'a' && c <= 'z' || c >= '0' && c <= '9';
    }

    private String token() {
        return tokens.get(at);
    }

    private boolean isWord() {
        return token().matches("[a-z]+");
    }

    private boolean isNumber() {
        return token().matches("[0-9]+");
    }

    private void want(String sign) {
        if (!token().equals(sign)) {
            throw stop(1);
        }
        at++;
    }

    private void line() {
        boolean die = token().equals("die");
        if (!die && !token().equals("let")) {
            throw stop(1);
        }
        if (names.size() == 12) {
            throw stop(4);
        }
        at++;
        String word = token();
        if (!isWord() || OWN.contains(word)) {
            throw stop(1);
        }
        if (find(word) != null) {
            throw stop(3);
        }
        at++;
        names.add(die ? die(word) : let(word));
    }

    private Name find(String word) {
        for (Name name : names) {
            if (name.word.equals(word)) {
                return name;
            }
        }
        return null;
    }

    private Name die(String word) {
        List<Integer> faces = new ArrayList<>();
        TreeMap<Integer, BigInteger> ways = new TreeMap<>();
        while (faces.isEmpty() || !token().equals(";")) {
            int face = number(0, 60);
            if (faces.size() == 12) {
                throw stop(4, places.get(at - 1));
            }
            faces.add(face);
            ways.merge(face, BigInteger.ONE, BigInteger::add);
        }
        at++;
        return new Name(word, faces, ways);
    }

    private int number(int least, int most) {
        if (!isNumber()) {
            throw stop(1);
        }
        int number = Integer.parseInt(token());
        if (number < least || number > most) {
            throw stop(2);
        }
        at++;
        return number;
    }

    private Name let(String word) {
        want("=");
        tooMuch = false;
        TreeMap<Integer, BigInteger> ways = sum(0);
        if (token().equals(";") && tooMuch) {
            throw stop(5);
        }
        want(";");
        return new Name(word, List.of(), ways);
    }

    private TreeMap<Integer, BigInteger> sum(int open) {
        TreeMap<Integer, BigInteger> sum = one(0);
        boolean first = true;
        while (first || token().equals("+") || token().equals("-")) {
            boolean minus = token().equals("-");
            if (minus || !first) {
                at++;
            }
            sum = checked(sum, term(open), minus ? (x, y) -> x - y : Integer::sum);
            first = false;
        }
        return sum;
    }

    private static TreeMap<Integer, BigInteger> one(int number) {
        return new TreeMap<>(Map.of(number, BigInteger.ONE));
    }

    static TreeMap<Integer, BigInteger> joined(Map<Integer, BigInteger> a, Map<Integer, BigInteger> b,
            IntBinaryOperator how) {
        TreeMap<Integer, BigInteger> all = new TreeMap<>();
        for (Map.Entry<Integer, BigInteger> x : a.entrySet()) {
            for (Map.Entry<Integer, BigInteger> y : b.entrySet()) {
                all.merge(how.applyAsInt(x.getKey(), y.getKey()), x.getValue().multiply(y.getValue()), BigInteger::add);
            }
        }
        return all;
    }

    /** Once it is TOO MUCH, what the rest of the LINE makes is of no interest. */
    private TreeMap<Integer, BigInteger> checked(Map<Integer, BigInteger> a, Map<Integer, BigInteger> b,
            IntBinaryOperator how) {
        if (tooMuch) {
            return one(0);
        }
        TreeMap<Integer, BigInteger> all = joined(a, b, how);
        BigInteger total = BigInteger.ZERO;
        for (BigInteger ways : all.values()) {
            total = total.add(ways);
        }
        tooMuch = total.compareTo(MOST) > 0 || all.firstKey() < -200 || all.lastKey() > 200;
        return tooMuch ? one(0) : all;
    }

    private TreeMap<Integer, BigInteger> term(int open) {
        if (!isNumber() || !tokens.get(at + 1).equals("of")) {
            return unit(open);
        }
        int times = number(1, 6);
        at++;
        TreeMap<Integer, BigInteger> each = unit(open);
        TreeMap<Integer, BigInteger> sum = each;
        for (int i = 1; i < times; i++) {
            sum = checked(sum, each, Integer::sum);
        }
        return sum;
    }

    private TreeMap<Integer, BigInteger> unit(int open) {
        String word = token();
        if (isNumber()) {
            return one(number(0, 60));
        }
        if (word.equals("(")) {
            opened(open);
            TreeMap<Integer, BigInteger> inner = sum(open + 1);
            want(")");
            return inner;
        }
        if (word.equals("high") || word.equals("low") || word.equals("more")) {
            return pair(word, open);
        }
        if (!isWord() || OWN.contains(word)) {
            throw stop(1);
        }
        Name name = find(word);
        if (name == null) {
            throw stop(3);
        }
        at++;
        return name.ways;
    }

    private void opened(int open) {
        if (token().equals("(") && open == 10) {
            throw stop(4);
        }
        want("(");
    }

    private TreeMap<Integer, BigInteger> pair(String word, int open) {
        at++;
        opened(open);
        TreeMap<Integer, BigInteger> a = sum(open + 1);
        want(",");
        TreeMap<Integer, BigInteger> b = sum(open + 1);
        want(")");
        IntBinaryOperator more = (x, y) -> x > y ? 1 : 0;
        return checked(a, b, word.equals("high") ? Math::max : word.equals("low") ? Math::min : more);
    }
}
