import java.util.ArrayList;
import java.util.HashSet;
import java.util.List;
import java.util.Map;
import java.util.Set;

/** A text read the slow and plain way: first into tokens, then into trees. */
final class PlainText {
    static final class Fault extends RuntimeException {
        final int which;
        final int place;

        Fault(int which, int place) {
            super(null, null, false, false);
            this.which = which;
            this.place = place;
        }
    }

    interface Tree {
        int ask(Map<String, Integer> names);
    }

    static final class Clause {
        final String word;
        final List<Integer> numbers = new ArrayList<>();

        Clause(String word) {
            this.word = word;
        }
    }

    private static final class Token {
        final String what;
        final int place;

        Token(String what, int place) {
            this.what = what;
            this.place = place;
        }
    }

    private static final Set<String> NAMES =
            Set.of("day", "heat", "size", "straw", "melted", "edge", "sights", "kinds");

    final List<Clause> clauses = new ArrayList<>();
    Tree melts;
    Tree sells;
    Tree rots;

    private final List<Token> tokens = new ArrayList<>();
    private final Set<String> laws = new HashSet<>();
    private int at = 0;
    private String law = "";

    PlainText(byte[] bytes) {
        cut(bytes);
        while (!here().isEmpty()) {
            clause();
        }
    }

    private void cut(byte[] bytes) {
        StringBuilder all = new StringBuilder();
        for (byte b : bytes) {
            all.append((char) (b & 255));
        }
        String rest = all.toString();
        int i = 0;
        while (i < rest.length()) {
            char c = rest.charAt(i);
            int from = i;
            if (c == 32 || c == 10) {
                i++;
                continue;
            }
            if (letter(c)) {
                while (i < rest.length() && letter(rest.charAt(i))) i++;
            } else if (digit(c)) {
                while (i < rest.length() && digit(rest.charAt(i))) i++;
            } else if (rest.startsWith("<=", i) || rest.startsWith(">=", i)) {
                i += 2;
            } else {
                i++;
            }
            tokens.add(new Token(rest.substring(from, i), from));
        }
        tokens.add(new Token("", rest.length()));
    }

    private static boolean letter(char c) {
        return c >= 'a' && c <= 'z' || c >= 'A' && c <= 'Z';
    }

    private static boolean digit(char c) {
        return c >= '0' && c <= '9';
    }

    private String here() {
        return tokens.get(at).what;
    }

    private Fault fault(int which) {
        return new Fault(which, tokens.get(at).place);
    }

    private void take(String what) {
        if (!here().equals(what)) throw fault(1);
        at++;
    }

    private boolean isNumber() {
        return !here().isEmpty() && digit(here().charAt(0));
    }

    private int number() {
        String digits = here().replaceFirst("^0+", "");
        return digits.length() > 8 ? 99999999 : digits.isEmpty() ? 0 : Integer.parseInt(digits);
    }

    private void number(Clause to, int least, int most) {
        if (!isNumber()) throw fault(1);
        if (number() < least || number() > most) throw fault(2);
        to.numbers.add(number());
        at++;
    }

    private void clause() {
        String word = here();
        boolean isLaw = word.equals("melts") || word.equals("sells") || word.equals("rots");
        if (!isLaw && !Set.of("pond", "sight", "saw", "cross", "straw", "day", "sell").contains(word)) throw fault(1);
        if (isLaw && !laws.add(word)) throw fault(4);
        if (clauses.size() == 24) throw fault(6);
        Clause made = new Clause(word);
        clauses.add(made);
        at++;
        if (isLaw) {
            law = word;
            Tree tree = sum(0, false);
            if (word.equals("melts")) melts = tree;
            if (word.equals("sells")) sells = tree;
            if (word.equals("rots")) rots = tree;
        } else {
            deed(made);
        }
        take(";");
    }

    private void deed(Clause made) {
        switch (made.word) {
            case "pond":
                number(made, 2, 8);
                take("by");
                number(made, 2, 8);
                break;
            case "sight":
                number(made, 0, 9);
                take("at");
                number(made, 0, 7);
                take(",");
                number(made, 0, 7);
                take(":");
                number(made, 1, 3);
                take(",");
                number(made, 1, 3);
                take("deep");
                number(made, 0, 9);
                break;
            case "straw":
                number(made, 1, 9);
                take("to");
                number(made, 0, 63);
                break;
            case "day":
                number(made, 1, 60);
                break;
            case "sell":
                number(made, 0, 63);
                break;
            default:
                number(made, 0, 6);
        }
    }

    private static int held(long value) {
        return (int) Math.max(-1000000L, Math.min(1000000L, value));
    }

    private Tree sum(int open, boolean isSeventh) {
        Tree made = product(open, isSeventh);
        while (here().equals("+") || here().equals("-")) {
            boolean plus = here().equals("+");
            at++;
            Tree left = made;
            Tree right = product(open, false);
            made = n -> held((long) left.ask(n) + (plus ? 1L : -1L) * right.ask(n));
        }
        return made;
    }

    private Tree product(int open, boolean isSeventh) {
        Tree made = one(open, isSeventh);
        while (here().equals("*") || here().equals("/")) {
            boolean times = here().equals("*");
            at++;
            Tree left = made;
            Tree right = one(open, false);
            made = n -> {
                long a = left.ask(n);
                long b = right.ask(n);
                return held(times ? a * b : b == 0 ? 0 : a / b);
            };
        }
        return made;
    }

    private Tree one(int open, boolean isSeventh) {
        String token = here();
        boolean opens = token.equals("(") || token.equals("nth") || token.equals("-");
        boolean isName = NAMES.contains(token);
        if (!opens && !isName && !isNumber()) throw fault(1);
        if (isNumber() && number() > 9999) throw fault(2);
        if (opens && open == 8) throw fault(3);
        if ((token.equals("sights") || token.equals("kinds")) && !law.equals("sells")) throw fault(5);
        if (isSeventh) throw fault(7);
        if (isNumber()) {
            int value = number();
            at++;
            return n -> value;
        }
        at++;
        if (isName) return n -> n.get(token);
        if (token.equals("-")) {
            Tree of = one(open + 1, false);
            return n -> -of.ask(n);
        }
        if (token.equals("(")) {
            Tree inner = sum(open + 1, false);
            take(")");
            return inner;
        }
        return choice(open + 1);
    }

    private Tree choice(int open) {
        Tree which = one(open, false);
        take("of");
        take("(");
        List<Tree> some = new ArrayList<>();
        some.add(sum(open, false));
        while (here().equals(",")) {
            at++;
            some.add(sum(open, some.size() == 6));
        }
        take(")");
        return n -> some.get(Math.max(1, Math.min(some.size(), which.ask(n))) - 1).ask(n);
    }
}
