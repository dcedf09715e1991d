import java.util.ArrayDeque;
import java.util.ArrayList;
import java.util.Arrays;
import java.util.Deque;
import java.util.HashSet;
import java.util.List;
import java.util.Map;
import java.util.Set;
import java.util.regex.Matcher;
import java.util.regex.Pattern;

/** Texts for PlainLodger: a tree of terms, and a stack of what is open. */
final class PlainText {
    static final class Fault extends Exception {
        private static final long serialVersionUID = 1L;
        final int kind;
        final int place;

        Fault(int kind, int place) {
            this.kind = kind;
            this.place = place;
        }
    }

    interface Term {
        long value(Map<String, Integer> names, int[] lights);
    }

    record Token(String text, int place) {
        boolean isNumber() {
            return !text.isEmpty() && text.chars().allMatch(c -> c >= '0' && c <= '9');
        }
    }

    private static final Pattern TOKENS = Pattern.compile("[a-zA-Z]+|[0-9]+|<=|>=|[<>=#+\\-*/();]|[^ \\n]",
            Pattern.DOTALL);
    private static final List<String> NAMES = Arrays.asList("hour", "phase", "size", "steps", "kind", "height", "at",
            "silver", "bed", "mood", "who");
    private static final Map<String, List<String>> OF_LAW = Map.of(
            "shines", Arrays.asList("hour", "phase", "size", "steps", "kind", "height", "at"),
            "pays", Arrays.asList("hour", "phase", "size", "silver", "bed"),
            "kicks", Arrays.asList("hour", "phase", "size", "mood", "who", "at"));
    private static final List<String> BEGINS = Arrays.asList("shines", "pays", "kicks", "cell", "height", "beast",
            "lodge", "out", "lead", "hour");

    Term shines = null;
    Term pays = null;
    Term kicks = null;
    final List<Object[]> clauses = new ArrayList<>();

    private final List<Token> tokens = new ArrayList<>();
    private int next = 0;
    private String law = "";
    private final Deque<String> open = new ArrayDeque<>();
    private final Set<String> told = new HashSet<>();

    static PlainText of(String tape) throws Fault {
        PlainText t = new PlainText();
        Matcher m = TOKENS.matcher(tape);
        while (m.find()) {
            t.tokens.add(new Token(m.group(), m.start()));
        }
        t.tokens.add(new Token("", tape.length()));
        while (!t.peek().text.isEmpty()) {
            t.clause();
        }
        return t;
    }

    private Token peek() {
        return tokens.get(next);
    }

    private Fault fault(int kind) {
        return new Fault(kind, peek().place);
    }

    private void take(String text) throws Fault {
        if (!peek().text.equals(text)) {
            throw fault(1);
        }
        next++;
    }

    private boolean taken(String text) {
        if (peek().text.equals(text)) {
            next++;
            return true;
        }
        return false;
    }

    private int number(int low, int high) throws Fault {
        if (!peek().isNumber()) {
            throw fault(1);
        }
        java.math.BigInteger v = new java.math.BigInteger(peek().text);
        if (v.bitLength() > 20 || v.intValue() < low || v.intValue() > high) {
            throw fault(2);
        }
        next++;
        return v.intValue();
    }

    private void clause() throws Fault {
        String word = peek().text;
        if (!BEGINS.contains(word)) {
            throw fault(1);
        }
        if (told.contains(word)) {
            throw fault(4);
        }
        if (clauses.size() == 24) {
            throw fault(6);
        }
        next++;
        int a = 0;
        int b = 0;
        switch (word) {
            case "shines", "pays", "kicks" -> {
                told.add(word);
                law = word;
                Term t = sum();
                shines = word.equals("shines") ? t : shines;
                pays = word.equals("pays") ? t : pays;
                kicks = word.equals("kicks") ? t : kicks;
            }
            case "cell" -> {
                a = number(0, 29);
                take("kind");
                b = number(0, 3);
            }
            case "height" -> {
                a = number(0, 9);
                take("of");
                b = number(0, 29);
            }
            case "beast" -> {
                a = number(0, 29);
                take("mood");
                b = number(0, 9);
            }
            case "lodge" -> a = number(0, 29);
            case "lead" -> {
                a = number(0, 4);
                take("to");
                b = number(0, 29);
            }
            case "hour" -> a = number(1, 60);
            default -> { }
        }
        take(";");
        clauses.add(new Object[] {word, a, b});
    }

    private void opens(String what) throws Fault {
        if (open.size() == 8) {
            throw fault(3);
        }
        open.push(what);
        next++;
    }

    private static long bound(long v) {
        return v > 1000000 ? 1000000 : v < -1000000 ? -1000000 : v;
    }

    private Term sum() throws Fault {
        Term left = product();
        while (peek().text.equals("+") || peek().text.equals("-")) {
            boolean plus = peek().text.equals("+");
            next++;
            Term a = left;
            Term b = product();
            left = (n, l) -> bound(a.value(n, l) + (plus ? b.value(n, l) : -b.value(n, l)));
        }
        return left;
    }

    private Term product() throws Fault {
        Term left = one();
        while (peek().text.equals("*") || peek().text.equals("/")) {
            boolean times = peek().text.equals("*");
            next++;
            Term a = left;
            Term b = one();
            left = (n, l) -> {
                long x = a.value(n, l);
                long y = b.value(n, l);
                return bound(times ? x * y : y == 0 ? 0 : x / y);
            };
        }
        return left;
    }

    private Term one() throws Fault {
        Token t = peek();
        if (t.isNumber()) {
            int v = number(0, 9999);
            return (n, l) -> v;
        }
        if (NAMES.contains(t.text)) {
            if (!OF_LAW.get(law).contains(t.text)) {
                throw fault(5);
            }
            next++;
            return (n, l) -> n.get(t.text);
        }
        Term result;
        switch (t.text) {
            case "(" -> {
                opens("(");
                result = sum();
                take(")");
            }
            case "-" -> {
                opens("-");
                Term a = one();
                result = (n, l) -> -a.value(n, l);
            }
            case "mean" -> {
                opens("mean");
                Term a = one();
                take("with");
                Term b = one();
                result = (n, l) -> (a.value(n, l) + b.value(n, l)) / 2;
            }
            case "light" -> {
                if (law.equals("shines")) {
                    throw fault(5);
                }
                opens("light");
                Term a = one();
                result = (n, l) -> {
                    long c = a.value(n, l);
                    return c >= 0 && c <= 29 ? l[(int) c] : 0;
                };
            }
            case "if" -> {
                opens("if");
                Term ask = either();
                take("then");
                Term yes = sum();
                take("else");
                Term no = sum();
                take("end");
                result = (n, l) -> ask.value(n, l) != 0 ? yes.value(n, l) : no.value(n, l);
            }
            default -> throw fault(1);
        }
        open.pop();
        return result;
    }

    private Term either() throws Fault {
        Term left = both();
        while (taken("or")) {
            Term a = left;
            Term b = both();
            left = (n, l) -> a.value(n, l) + b.value(n, l) > 0 ? 1 : 0;
        }
        return left;
    }

    private Term both() throws Fault {
        Term left = ask();
        while (taken("and")) {
            Term a = left;
            Term b = ask();
            left = (n, l) -> a.value(n, l) * b.value(n, l);
        }
        return left;
    }

    private Term ask() throws Fault {
        if (peek().text.equals("not")) {
            opens("not");
            Term a = ask();
            open.pop();
            return (n, l) -> 1 - a.value(n, l);
        }
        Term a = sum();
        String sign = peek().text;
        if (!Arrays.asList("<", "<=", ">", ">=", "=", "#").contains(sign)) {
            throw fault(1);
        }
        next++;
        Term b = sum();
        return (n, l) -> {
            int c = Long.compare(a.value(n, l), b.value(n, l));
            return switch (sign) {
                case "<" -> c < 0 ? 1 : 0;
                case "<=" -> c <= 0 ? 1 : 0;
                case ">" -> c > 0 ? 1 : 0;
                case ">=" -> c >= 0 ? 1 : 0;
                case "=" -> c == 0 ? 1 : 0;
                default -> c != 0 ? 1 : 0;
            };
        };
    }
}
