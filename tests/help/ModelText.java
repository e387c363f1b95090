import java.util.ArrayDeque;
import java.util.ArrayList;
import java.util.Arrays;
import java.util.Deque;
import java.util.HashSet;
import java.util.List;
import java.util.Set;
import java.util.regex.Matcher;
import java.util.regex.Pattern;

/** A TEXT of the Model: its first FAULT by a pushdown table; without one its CLAUSES, and its laws as trees. */
final class ModelText {
    interface Tree {
        long value(Model.Table t, int who);
    }

    int fault;
    int faultAt;
    final List<String[]> clauses = new ArrayList<>();
    Tree reaches;
    Tree bears;

    private final List<String> tokens = new ArrayList<>();
    private final List<Integer> places = new ArrayList<>();
    private static final Pattern TOKEN = Pattern.compile("[ \n]+|([a-zA-Z]+|[0-9]+|<=|>=|[\\s\\S])");

    ModelText(String text) {
        Matcher m = TOKEN.matcher(text);
        while (m.find()) {
            if (m.group(1) != null) {
                tokens.add(m.group(1));
                places.add(m.start());
            }
        }
        tokens.add("");
        places.add(text.length());
        check();
        if (fault == 0) {
            build();
        }
    }

    // ---- the pushdown table: what is awaited, the next on top; "}" closes one of those that are open

    private static final Set<String> CLAUSES = Set.of("reaches", "bears", "kin", "reach", "down", "strap", "swap", "dinner");
    private static final Set<String> NAMES = Set.of("dinner", "who", "temper", "kept", "seat", "beside", "loose");
    private static final Set<String> ASKS = Set.of("<", "<=", ">", ">=", "=", "#");

    private void check() {
        Deque<String> awaited = new ArrayDeque<>();
        awaited.push("TEXT");
        Set<String> laws = new HashSet<>();
        String law = "";
        int many = 0;
        int open = 0;
        int at = 0;
        while (!awaited.isEmpty()) {
            String token = tokens.get(at);
            String top = awaited.pop();
            switch (top) {
                case "}":
                    open--;
                    break;
                case "TEXT":
                    if (token.isEmpty()) {
                        return;
                    }
                    if (!CLAUSES.contains(token)) {
                        fail(1, at);
                        return;
                    }
                    if (laws.contains(token)) {
                        fail(4, at);
                        return;
                    }
                    if (many == 24) {
                        fail(6, at);
                        return;
                    }
                    many++;
                    await(awaited, "TEXT", ";");
                    if (token.equals("reaches") || token.equals("bears")) {
                        law = token;
                        laws.add(token);
                        awaited.push("SUM");
                    } else if (token.equals("kin")) {
                        await(awaited, "0 99", "kept", "0 9");
                    } else if (token.equals("down")) {
                        await(awaited, "1 99", "by", "0 5");
                    } else if (token.equals("swap")) {
                        await(awaited, "0 5", "with", "0 5");
                    } else {
                        awaited.push(token.equals("dinner") ? "1 60" : "0 5");
                    }
                    at++;
                    break;
                case "SUM": await(awaited, "SUM+", "PRODUCT"); break;
                case "SUM+":
                    if (token.equals("+") || token.equals("-")) {
                        await(awaited, "SUM+", "PRODUCT");
                        at++;
                    }
                    break;
                case "PRODUCT": await(awaited, "PRODUCT+", "ONE"); break;
                case "PRODUCT+":
                    if (token.equals("*") || token.equals("/")) {
                        await(awaited, "PRODUCT+", "ONE");
                        at++;
                    }
                    break;
                case "EITHER": await(awaited, "EITHER+", "BOTH"); break;
                case "EITHER+":
                    if (token.equals("or")) {
                        await(awaited, "EITHER+", "BOTH");
                        at++;
                    }
                    break;
                case "BOTH": await(awaited, "BOTH+", "ASK"); break;
                case "BOTH+":
                    if (token.equals("and")) {
                        await(awaited, "BOTH+", "ASK");
                        at++;
                    }
                    break;
                case "ASK":
                    if (!token.equals("not")) {
                        await(awaited, "SUM", "SIGN", "SUM");
                    } else if (open == 8) {
                        fail(3, at);
                        return;
                    } else {
                        open++;
                        await(awaited, "}", "ASK");
                        at++;
                    }
                    break;
                case "SIGN":
                    if (!ASKS.contains(token)) {
                        fail(1, at);
                        return;
                    }
                    at++;
                    break;
                case "ONE":
                    if (NAMES.contains(token)) {
                        if (token.equals(law.equals("reaches") ? "loose" : "beside")) {
                            fail(5, at);
                            return;
                        }
                        at++;
                        break;
                    }
                    if (token.matches("[0-9]+")) {
                        awaited.push("0 9999");
                        break;
                    }
                    if (!Arrays.asList("(", "-", "across", "quiver", "if").contains(token)) {
                        fail(1, at);
                        return;
                    }
                    if (open == 8) {
                        fail(3, at);
                        return;
                    }
                    open++;
                    if (token.equals("(")) {
                        await(awaited, "}", ")", "SUM");
                    } else if (token.equals("if")) {
                        await(awaited, "}", "end", "SUM", "else", "SUM", "then", "EITHER");
                    } else {
                        await(awaited, "}", "ONE");
                    }
                    at++;
                    break;
                default:
                    if (top.contains(" ")) {
                        if (!token.matches("[0-9]+")) {
                            fail(1, at);
                            return;
                        }
                        java.math.BigInteger n = new java.math.BigInteger(token);
                        String[] ends = top.split(" ");
                        if (n.compareTo(new java.math.BigInteger(ends[0])) < 0 || n.compareTo(new java.math.BigInteger(ends[1])) > 0) {
                            fail(2, at);
                            return;
                        }
                    } else if (!top.equals(token)) {
                        fail(1, at);
                        return;
                    }
                    at++;
            }
        }
    }

    private static void await(Deque<String> awaited, String... lastFirst) {
        for (String one : lastFirst) {
            awaited.push(one);
        }
    }

    private void fail(int number, int at) {
        fault = number;
        faultAt = places.get(at);
    }

    // ---- the trees of a TEXT without FAULT

    private int next;

    private void build() {
        while (!tokens.get(next).isEmpty()) {
            String first = tokens.get(next);
            if (first.equals("reaches")) {
                next++;
                reaches = sum();
                clauses.add(new String[] {first});
                next++;
            } else if (first.equals("bears")) {
                next++;
                bears = sum();
                clauses.add(new String[] {first});
                next++;
            } else {
                int stop = next;
                while (!tokens.get(stop).equals(";")) {
                    stop++;
                }
                clauses.add(tokens.subList(next, stop).toArray(new String[0]));
                next = stop + 1;
            }
        }
    }

    private boolean take(String token) {
        if (tokens.get(next).equals(token)) {
            next++;
            return true;
        }
        return false;
    }

    private static long cap(long v) {
        return Math.max(-1000000, Math.min(1000000, v));
    }

    private Tree sum() {
        Tree left = product();
        while (true) {
            Tree l = left;
            if (take("+")) {
                Tree r = product();
                left = (t, w) -> cap(l.value(t, w) + r.value(t, w));
            } else if (take("-")) {
                Tree r = product();
                left = (t, w) -> cap(l.value(t, w) - r.value(t, w));
            } else {
                return left;
            }
        }
    }

    private Tree product() {
        Tree left = one();
        while (true) {
            Tree l = left;
            if (take("*")) {
                Tree r = one();
                left = (t, w) -> cap(l.value(t, w) * r.value(t, w));
            } else if (take("/")) {
                Tree r = one();
                left = (t, w) -> r.value(t, w) == 0 ? 0 : cap(l.value(t, w) / r.value(t, w));
            } else {
                return left;
            }
        }
    }

    private Tree one() {
        if (take("(")) {
            Tree in = sum();
            take(")");
            return in;
        }
        if (take("-")) {
            Tree in = one();
            return (t, w) -> -in.value(t, w);
        }
        if (take("across")) {
            Tree in = one();
            return (t, w) -> {
                long who = in.value(t, w);
                return who < 0 || who >= t.kin.size() ? 0 : t.across((int) who);
            };
        }
        if (take("quiver")) {
            Tree in = one();
            return (t, w) -> {
                long who = in.value(t, w);
                return who < 0 || who >= t.kin.size() ? 0 : t.kin.get((int) who).kept;
            };
        }
        if (take("if")) {
            Tree asked = either();
            take("then");
            Tree yes = sum();
            take("else");
            Tree no = sum();
            take("end");
            return (t, w) -> asked.value(t, w) != 0 ? yes.value(t, w) : no.value(t, w);
        }
        String token = tokens.get(next++);
        switch (token) {
            case "dinner": return (t, w) -> t.dinner;
            case "who": return (t, w) -> w;
            case "temper": return (t, w) -> t.kin.get(w).temper;
            case "kept": return (t, w) -> t.kin.get(w).kept;
            case "seat": return (t, w) -> t.seats.indexOf(w);
            case "loose": return (t, w) -> t.book.size();
            case "beside": return (t, w) -> {
                int n = t.seats.size();
                int seat = t.seats.indexOf(w);
                return t.kin.get(t.seats.get((seat + 1) % n)).kept + t.kin.get(t.seats.get((seat + n - 1) % n)).kept;
            };
            default:
                long number = Long.parseLong(token);
                return (t, w) -> number;
        }
    }

    private Tree either() {
        Tree left = both();
        while (take("or")) {
            Tree l = left;
            Tree r = both();
            left = (t, w) -> l.value(t, w) + r.value(t, w) > 0 ? 1 : 0;
        }
        return left;
    }

    private Tree both() {
        Tree left = ask();
        while (take("and")) {
            Tree l = left;
            Tree r = ask();
            left = (t, w) -> l.value(t, w) * r.value(t, w);
        }
        return left;
    }

    private Tree ask() {
        if (take("not")) {
            Tree in = ask();
            return (t, w) -> 1 - in.value(t, w);
        }
        Tree l = sum();
        String sign = tokens.get(next++);
        Tree r = sum();
        return (t, w) -> {
            int c = Long.compare(l.value(t, w), r.value(t, w));
            boolean so;
            switch (sign) {
                case "<": so = c < 0; break;
                case "<=": so = c <= 0; break;
                case ">": so = c > 0; break;
                case ">=": so = c >= 0; break;
                case "=": so = c == 0; break;
                default: so = c != 0;
            }
            return so ? 1 : 0;
        };
    }
}
