import java.util.ArrayList;
import java.util.List;
import java.util.Map;
import java.util.function.Function;

/** A RULE's text read once more, by descent, for the Model: its act and what it says, or its first fault. */
final class ModelRule {
    private static final List<String> ACTS = List.of("siren", "work", "shut", "live");
    private static final List<String> NAMES =
            List.of("full", "burst", "run", "drop", "dead", "wind", "lake", "day", "height");
    private static final List<String> JOINTS = List.of("if", "and", "or", "not");

    private static final class Bad extends RuntimeException {
        private static final long serialVersionUID = 1;
        final int fault;

        Bad(int fault) {
            this.fault = fault;
        }
    }

    private static final class Token {
        final String text;
        final int place;

        Token(String text, int place) {
            this.text = text;
            this.place = place;
        }
    }

    final String act;
    final int fault;
    final int place;
    private final Function<Map<String, Integer>, Boolean> condition;
    private final List<Token> tokens = new ArrayList<>();
    private int at;
    private int terms;

    ModelRule(String text) {
        cut(text);
        String foundAct = null;
        Function<Map<String, Integer>, Boolean> found = null;
        int foundFault = 0;
        try {
            foundAct = act();
            expect("if");
            found = any(0);
            if (!peek().equals("END")) {
                throw new Bad(1);
            }
        } catch (Bad b) {
            foundFault = b.fault;
        }
        act = foundAct;
        condition = found;
        fault = foundFault;
        place = tokens.get(at).place;
    }

    boolean holds(Map<String, Integer> names) {
        return condition.apply(names);
    }

    /** Bytes that begin no token become the token BAD. */
    private void cut(String text) {
        int i = 0;
        while (i < text.length()) {
            char c = text.charAt(i);
            int end = i + 1;
            if (c == ' ') {
                i++;
                continue;
            }
            String token;
            if (c >= 'a' && c <= 'z') {
                while (end < text.length() && text.charAt(end) >= 'a' && text.charAt(end) <= 'z') {
                    end++;
                }
                token = end - i > 8 ? "BAD" : text.substring(i, end);
            } else if (c >= '0' && c <= '9') {
                while (end < text.length() && text.charAt(end) >= '0' && text.charAt(end) <= '9') {
                    end++;
                }
                token = end - i > 4 ? "BAD" : text.substring(i, end);
            } else {
                token = "<>=+-()".indexOf(c) >= 0 ? String.valueOf(c) : "BAD";
            }
            tokens.add(new Token(token, i));
            i = end;
        }
        tokens.add(new Token("END", text.length()));
    }

    private String peek() {
        return tokens.get(at).text;
    }

    private void expect(String token) {
        if (!peek().equals(token)) {
            throw new Bad(1);
        }
        at++;
    }

    private boolean isWord() {
        return peek().charAt(0) >= 'a' && peek().charAt(0) <= 'z';
    }

    private String act() {
        if (!ACTS.contains(peek())) {
            throw new Bad(isWord() && !JOINTS.contains(peek()) ? 2 : 1);
        }
        return tokens.get(at++).text;
    }

    private Function<Map<String, Integer>, Boolean> any(int open) {
        Function<Map<String, Integer>, Boolean> left = all(open);
        while (peek().equals("or")) {
            at++;
            Function<Map<String, Integer>, Boolean> a = left;
            Function<Map<String, Integer>, Boolean> b = all(open);
            left = n -> a.apply(n) || b.apply(n);
        }
        return left;
    }

    private Function<Map<String, Integer>, Boolean> all(int open) {
        Function<Map<String, Integer>, Boolean> left = one(open, 0);
        while (peek().equals("and")) {
            at++;
            Function<Map<String, Integer>, Boolean> a = left;
            Function<Map<String, Integer>, Boolean> b = one(open, 0);
            left = n -> a.apply(n) && b.apply(n);
        }
        return left;
    }

    private Function<Map<String, Integer>, Boolean> one(int open, int nots) {
        if (peek().equals("not")) {
            if (nots == 8) {
                throw new Bad(3);
            }
            at++;
            Function<Map<String, Integer>, Boolean> a = one(open, nots + 1);
            return n -> !a.apply(n);
        }
        if (peek().equals("(")) {
            if (open == 8) {
                throw new Bad(3);
            }
            at++;
            Function<Map<String, Integer>, Boolean> a = any(open + 1);
            expect(")");
            return a;
        }
        Function<Map<String, Integer>, Integer> left = sum();
        String sign = peek();
        if (!sign.equals("<") && !sign.equals(">") && !sign.equals("=")) {
            throw new Bad(1);
        }
        at++;
        Function<Map<String, Integer>, Integer> right = sum();
        return n -> {
            int a = left.apply(n);
            int b = right.apply(n);
            return sign.equals("<") ? a < b : sign.equals(">") ? a > b : a == b;
        };
    }

    private Function<Map<String, Integer>, Integer> sum() {
        Function<Map<String, Integer>, Integer> left = term();
        while (peek().equals("+") || peek().equals("-")) {
            int sign = tokens.get(at++).text.equals("+") ? 1 : -1;
            Function<Map<String, Integer>, Integer> a = left;
            Function<Map<String, Integer>, Integer> b = term();
            left = n -> a.apply(n) + sign * b.apply(n);
        }
        return left;
    }

    private Function<Map<String, Integer>, Integer> term() {
        String t = peek();
        boolean whole = t.charAt(0) >= '0' && t.charAt(0) <= '9';
        if (isWord() && !NAMES.contains(t)) {
            throw new Bad(JOINTS.contains(t) ? 1 : 2);
        }
        if (!whole && !isWord()) {
            throw new Bad(1);
        }
        if (terms == 30) {
            throw new Bad(3);
        }
        terms++;
        at++;
        return whole ? n -> Integer.parseInt(t) : n -> n.get(t);
    }
}
