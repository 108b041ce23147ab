import java.util.Random;

/** Random texts of either language: most of them can be read, some are spoilt. */
final class Texts {
    private static final String[] LAW = {"child", "age", "lane", "long", "sight", "corner", "last", "hour", "mood"};
    private static final String[] ORDERS = {"hour", "done", "latest", "named", "kids", "at", "plate"};
    private static final String[] ANY = {"turns", "says", "bars", "if", "or", "and", "not", "(", ")", "[", "]", "<",
        ">", "=", "+", "-", "*", "/", "%", ";", "0", "7", "1000", "1001", "x", "wander", "cry", "lead", "to", "pass",
        "times", "at", "plate", "hour", "child", "A", "\n", "\u00ff", "00", "003", "21", "not not"};

    private final Random dice;
    private final boolean law;

    Texts(Random dice, boolean law) {
        this.dice = dice;
        this.law = law;
    }

    String text() {
        int clauses = 1 + dice.nextInt(dice.nextInt(6) == 0 ? 13 : 4);
        StringBuilder t = new StringBuilder();
        for (int i = 0; i < clauses; i++) {
            t.append(i == 0 ? "" : ";" + blanks()).append(clause());
        }
        if (dice.nextInt(6) == 0) {
            spoil(t);
        }
        return t.toString();
    }

    private void spoil(StringBuilder t) {
        int place = dice.nextInt(t.length() + 1);
        if (dice.nextBoolean()) {
            t.delete(place, Math.min(t.length(), place + 1 + dice.nextInt(4)));
        } else {
            t.insert(place, blanks() + ANY[dice.nextInt(ANY.length)] + blanks());
        }
    }

    private String blanks() {
        return " ".repeat(dice.nextInt(3) == 0 ? dice.nextInt(3) : 1);
    }

    private String clause() {
        StringBuilder t = new StringBuilder();
        if (law) {
            int kind = dice.nextInt(3);
            t.append(kind == 0 ? "turns " + sum(0) : kind == 1 ? "says " + sum(0) : "bars");
            if (kind == 2 && dice.nextInt(3) > 0) {
                t.append(" if lane ").append("<>=".charAt(dice.nextInt(3))).append(" [hour+").append(sum(1)).append("]%9");
            } else if (kind == 2 || dice.nextInt(2) == 0) {
                t.append(" if ").append(test(0));
            }
            return t.toString();
        }
        int kind = dice.nextInt(6);
        String kid = dice.nextInt(3) > 0 ? "" + dice.nextInt(3) : sum(1);
        if (kind <= 1) {
            t.append("wander ").append(kid);
        } else if (kind == 2) {
            t.append("cry ").append(kid);
        } else if (kind == 3) {
            t.append("lead ").append(kid).append(" to ").append(dice.nextBoolean() ? "[at 0+" + dice.nextInt(8) + "]%8" : sum(1));
        } else {
            t.append("pass");
        }
        if (dice.nextInt(3) == 0) {
            t.append(" times ").append(1 + dice.nextInt(dice.nextInt(8) == 0 ? 21 : 4));
        }
        if (dice.nextInt(3) == 0) {
            t.append(" if ").append(test(0));
        }
        return t.toString();
    }

    private String test(int deep) {
        StringBuilder t = new StringBuilder(both(deep));
        while (dice.nextInt(4) == 0) {
            t.append(" or ").append(both(deep));
        }
        return t.toString();
    }

    private String both(int deep) {
        StringBuilder t = new StringBuilder(plain(deep));
        while (dice.nextInt(4) == 0) {
            t.append(" and ").append(plain(deep));
        }
        return t.toString();
    }

    private String plain(int deep) {
        int kind = dice.nextInt(8);
        if (kind == 0) {
            return "not " + plain(deep);
        }
        if (kind == 1 && deep < 9) {
            return "(" + test(deep + 1) + ")";
        }
        return sum(deep) + blanks() + "<>=".charAt(dice.nextInt(3)) + blanks() + sum(deep);
    }

    private String sum(int deep) {
        StringBuilder t = new StringBuilder(term(deep));
        while (dice.nextInt(4) == 0) {
            t.append(blanks()).append("+-".charAt(dice.nextInt(2))).append(blanks()).append(term(deep));
        }
        return t.toString();
    }

    private String term(int deep) {
        StringBuilder t = new StringBuilder(part(deep));
        while (dice.nextInt(4) == 0) {
            t.append(blanks()).append("*/%".charAt(dice.nextInt(3))).append(blanks()).append(part(deep));
        }
        return t.toString();
    }

    private String part(int deep) {
        int kind = dice.nextInt(10);
        if (kind == 0 && deep < 9) {
            int n = dice.nextInt(6) == 0 ? 1 + dice.nextInt(9) : 1;
            return "[".repeat(n) + sum(deep + n) + "]".repeat(n);
        }
        if (kind < 5) {
            return "" + (dice.nextInt(6) == 0 ? dice.nextInt(1002) : dice.nextInt(10));
        }
        String word = law ? LAW[dice.nextInt(LAW.length)] : ORDERS[dice.nextInt(ORDERS.length)];
        if (word.equals("at")) {
            return "at " + dice.nextInt(dice.nextInt(20) == 0 ? 5 : 4);
        }
        return word.equals("plate") ? "plate " + dice.nextInt(dice.nextInt(20) == 0 ? 11 : 10) : word;
    }
}
