import java.util.ArrayList;
import java.util.List;
import java.util.regex.Matcher;
import java.util.regex.Pattern;

/** A text of either language as a tree; the constructor throws a Fault where it can't be read. */
final class ModelText {
    interface Words {
        int of(String word);
    }

    static final class Broken extends Exception {
        private static final long serialVersionUID = 1;
    }

    static final class Fault extends Exception {
        private static final long serialVersionUID = 1;
        final int place;

        Fault(int place) {
            this.place = place;
        }
    }

    interface Node {
        long value(Words words) throws Broken;
    }

    record Clause(String kind, Node first, Node second, int times, Node test) {
    }

    final List<Clause> clauses = new ArrayList<>();
    private final boolean law;
    private final List<String> tokens = new ArrayList<>();
    private final List<Integer> places = new ArrayList<>();
    private int i;
    private int parts;
    private int open;

    ModelText(String text, boolean law) throws Fault {
        this.law = law;
        Matcher m = Pattern.compile("[a-z]+|[0-9]+|[^ ]", Pattern.DOTALL).matcher(text);
        while (m.find()) {
            tokens.add(m.group());
            places.add(m.start());
        }
        tokens.add("");
        places.add(text.length());
        do {
            if (clauses.size() == 12) {
                throw fault();
            }
            clauses.add(clause());
        } while (take(";"));
        if (!here().isEmpty()) {
            throw fault();
        }
    }

    private String here() {
        return tokens.get(i);
    }

    private Fault fault() {
        return new Fault(places.get(i));
    }

    private boolean take(String t) {
        if (here().equals(t)) {
            i++;
            return true;
        }
        return false;
    }

    private void need(String t) throws Fault {
        if (!take(t)) {
            throw fault();
        }
    }

    private int number(int low, int high) throws Fault {
        if (!here().matches("[0-9]+") || new java.math.BigInteger(here()).bitLength() > 20) {
            throw fault();
        }
        int n = Integer.parseInt(here().replaceFirst("^0+(?=.)", ""));
        if (n < low || n > high) {
            throw fault();
        }
        i++;
        return n;
    }

    private Clause clause() throws Fault {
        String kind = here();
        if (!List.of(law ? new String[] {"turns", "says", "bars"} : new String[] {"wander", "cry", "lead", "pass"}).contains(kind)) {
            throw fault();
        }
        i++;
        Node first = null;
        Node second = null;
        int times = 1;
        if (!kind.equals("bars") && !kind.equals("pass")) {
            first = sum();
        }
        if (kind.equals("lead")) {
            need("to");
            second = sum();
        }
        if (!law && take("times")) {
            times = number(1, 20);
        }
        Node test = take("if") ? test() : null;
        return new Clause(kind, first, second, times, test);
    }

    private Node test() throws Fault {
        Node a = both();
        while (take("or")) {
            Node left = a;
            Node right = both();
            a = w -> left.value(w) == 1 ? 1 : right.value(w);
        }
        return a;
    }

    private Node both() throws Fault {
        Node a = plain();
        while (take("and")) {
            Node left = a;
            Node right = plain();
            a = w -> left.value(w) == 0 ? 0 : right.value(w);
        }
        return a;
    }

    private void opens() throws Fault {
        if (open == 8) {
            throw fault();
        }
        open++;
        i++;
    }

    private void closes(String t) throws Fault {
        need(t);
        open--;
    }

    private Node plain() throws Fault {
        if (take("not")) {
            Node a = plain();
            return w -> 1 - a.value(w);
        }
        if (here().equals("(")) {
            opens();
            Node a = test();
            closes(")");
            return a;
        }
        Node a = sum();
        String sign = here();
        if (!List.of("<", ">", "=").contains(sign)) {
            throw fault();
        }
        i++;
        Node b = sum();
        return w -> {
            long l = a.value(w);
            long r = b.value(w);
            return (sign.equals("<") ? l < r : sign.equals(">") ? l > r : l == r) ? 1 : 0;
        };
    }

    private static long checked(long n) throws Broken {
        if (Math.abs(n) > 1_000_000_000L) {
            throw new Broken();
        }
        return n;
    }

    private Node sum() throws Fault {
        Node a = term();
        while (List.of("+", "-").contains(here())) {
            boolean plus = here().equals("+");
            i++;
            Node left = a;
            Node right = term();
            a = w -> {
                long l = left.value(w);
                long r = right.value(w);
                return checked(plus ? l + r : l - r);
            };
        }
        return a;
    }

    private Node term() throws Fault {
        Node a = part();
        while (List.of("*", "/", "%").contains(here())) {
            String sign = here();
            i++;
            Node left = a;
            Node right = part();
            a = w -> {
                long l = left.value(w);
                long r = right.value(w);
                if (sign.equals("*")) {
                    return checked(l * r);
                }
                if (r == 0) {
                    throw new Broken();
                }
                long q = Math.abs(l) / Math.abs(r) * Long.signum(l) * Long.signum(r);
                return sign.equals("/") ? q : l - q * r;
            };
        }
        return a;
    }

    private Node part() throws Fault {
        if (here().equals("[")) {
            opens();
            Node a = sum();
            closes("]");
            return a;
        }
        if (!here().matches("[a-z]+|[0-9]+") || parts == 50) {
            throw fault();
        }
        parts++;
        if (here().matches("[0-9]+")) {
            int n = number(0, 1000);
            return w -> n;
        }
        String word = here();
        List<String> words = law
                ? List.of("child", "age", "lane", "long", "sight", "corner", "last", "hour", "mood")
                : List.of("hour", "done", "latest", "named", "kids", "at", "plate");
        if (!words.contains(word)) {
            throw fault();
        }
        i++;
        String whole = word.equals("at") ? "at " + number(0, 3) : word.equals("plate") ? "plate " + number(0, 9) : word;
        return w -> w.of(whole);
    }
}
