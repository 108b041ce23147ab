import java.util.function.IntFunction;

/** The boundaries that the document names under "Terms", I and II: numbers, texts, laws, orders. */
public final class TermsTest {
    private TermsTest() {
    }

    public static void main(String[] args) {
        corners();
        lanes();
        children();
        namesAndHeard();
        terms();
        sets();
        tape();
        tokens();
        clauses();
        grammarOfTests();
        grammarOfSums();
        numbers();
        parts();
        brackets();
        faultAtTheEnd();
        beyond();
        dividedByNothing();
        asksBehind();
        lawsAndForce();
        wordsOfLaws();
        holds();
        turnsAndSays();
        barred();
        grammarOfOrders();
        times();
        wordsOfOrders();
        runs();
        endsIt();
        Due.close();
    }

    private static void due(String sentence, String call, long got, long want) {
        Due.due(sentence, call, got, want);
    }

    // Terms I

    private static void corners() {
        String t = "Terms I: CORNERS 0 .. 7";
        Due.within(t + " (a lane's one)", 0, 7, c -> new LostLanes().lane(c, 3, 1, 0), c -> 0, -1);
        Due.within(t + " (a lane's other)", 0, 7, c -> new LostLanes().lane(3, c, 1, 0), c -> 0, -1);
        Due.within(t + " (a child's)", 0, 7, c -> new LostLanes().child(1, c), c -> 0, -1);
        Due.within(t + " (to lead to)", 0, 7, c -> Boroughs.with(new LostLanes(), 3).lead(0, c), c -> 3, -1);
        Due.within(t + " (far from)", 0, 7, c -> Boroughs.line(9, 9, 9, 9, 9, 9, 9).far(c, 3), c -> c == 0 ? 27 : 36, -1);
        Due.within(t + " (far to)", 0, 7, c -> Boroughs.line(9, 9, 9, 9, 9, 9, 9).far(3, c), c -> c == 0 ? 27 : 36, -1);
        for (int c = 0; c < 8; c++) {
            LostLanes x = new LostLanes();
            due("Terms I: a LANE from a CORNER to another one", "lane(" + c + ", " + c + ")", x.lane(c, c, 1, 0), -1);
            due("Terms I: a LANE from a CORNER to another one", "lane to the next", x.lane(c, (c + 1) % 8, 1, 0), 0);
        }
    }

    private static void lanes() {
        String t = "Terms I: LANES 0 .. 9 (10 at most)";
        LostLanes x = new LostLanes();
        due(t, "at(0, 0) without", x.at(0, 0), -1);
        for (int i = 0; i < 10; i++) {
            due(t, "count(0) ahead of lane " + i, x.count(0), i);
            due(t, "lane", x.lane(i % 8, (i + 1) % 8, 1, 0), i);
        }
        due(t, "at(9, 0)", x.at(9, 0), 1);
        due(t, "the 11th", x.lane(0, 1, 1, 0), -5);
        due(t, "count(0)", x.count(0), 10);
        due(t, "at(10, 0)", x.at(10, 0), -1);
        Due.within("Terms I: LONG 1 .. 9", 1, 9, n -> new LostLanes().lane(0, 1, n, 0), n -> 0, -1);
        Due.within("Terms I: SIGHT 0 .. 4", 0, 4, n -> new LostLanes().lane(0, 1, 1, n), n -> 0, -1);
        LostLanes both = Boroughs.with(Boroughs.with(new LostLanes(), 6), 2);
        both.lane(6, 2, 9, 4);
        due("Terms I: both ways", "wander(0)", both.wander(0), 2);
        due("Terms I: both ways", "wander(1)", both.wander(1), 6);
        due("Terms I: both ways", "far there", both.far(6, 2), 9);
        due("Terms I: both ways", "far back", both.far(2, 6), 9);
    }

    private static void children() {
        String t = "Terms I: CHILDREN 0 .. 3 (4 at most)";
        LostLanes x = new LostLanes();
        due(t, "of(0, 0) without", x.of(0, 0), -1);
        for (int i = 0; i < 4; i++) {
            due(t, "count(1)", x.count(1), i);
            due(t, "child", x.child(i + 1, i), i);
        }
        due(t, "of(3, 0)", x.of(3, 0), 4);
        due(t, "the 5th", x.child(1, 0), -5);
        due(t, "count(1)", x.count(1), 4);
        due(t, "of(4, 0)", x.of(4, 0), -1);
        Due.within("Terms I: AGE 1 .. 9", 1, 9, a -> new LostLanes().child(a, 0), a -> 0, -1);
        Due.within("Terms I: AGE 1 .. 9", 1, 9, a -> {
            LostLanes y = new LostLanes();
            y.child(a, 0);
            return y.of(0, 0);
        }, a -> a, -1);
        LostLanes last = Boroughs.with(Boroughs.line(1), 0);
        due("Terms I: LAST none at first", "of(0, 2)", last.of(0, 2), -1);
        last.wander(0);
        due("Terms I: LAST, the lane 0", "of(0, 2)", last.of(0, 2), 0);
        due("Terms I: LAST, the lane 0", "cry(0)", last.cry(0), 0);
    }

    private static void namesAndHeard() {
        String t = "Terms I: a NAME 0 .. 19 or none (at first)";
        LostLanes x = Boroughs.line(1, 1);
        due(t, "at(0, 4)", x.at(0, 4), -1);
        due(t, "count(2)", x.count(2), 0);
        due(t, "named(0)", x.named(0), -1);
        LostLanes y = Boroughs.plated(new int[] {0, 1, 1, 0}, new int[] {1, 2, 1, 19}, new int[] {2, 3, 1, -1});
        due(t, "the name 0", y.at(0, 4), 0);
        due(t, "the name 19", y.at(1, 4), 19);
        due(t, "none", y.at(2, 4), -1);
        due(t, "the name 0 counts", y.count(2), 2);
        due(t, "named(0)", y.named(0), 0);
        due(t, "named(19)", y.named(19), 1);
        due(t, "letter(3, 0, -2)", y.letter(3, 0, -2), 0);
        due(t, "letter(3, 19, -2)", y.letter(3, 19, -2), 1);
        Due.within(t + " (heard)", 0, 19, n -> new LostLanes().hear(n), n -> 1, -1);
        String h = "Terms I: HEARD, 6 at most";
        for (int i = 1; i <= 6; i++) {
            due(h, "hear(19)", x.hear(19), i);
        }
        due(h, "the 7th", x.hear(0), -5);
        due(h, "count(3)", x.count(3), 6);
        due(h, "forget()", x.forget(), 6);
        due(h, "hear(0) behind forget()", x.hear(0), 1);
    }

    private static void terms() {
        int[] first = {0, 1, 0};
        int[] most = {999, 10, 9};
        String[] names = {"HOUR 0 .. 999 (0 at first)", "CRIES 0 .. 10 (1)", "MOOD 0 .. 9 (0)"};
        for (int i = 0; i < 3; i++) {
            int what = i;
            String t = "Terms I: " + names[i];
            due(t, "count(" + (13 + i) + ") at first", new LostLanes().count(13 + i), first[i]);
            Due.within(t, 0, most[i], v -> new LostLanes().terms(what, v), v -> first[what], -1);
            Due.within(t + ", as it is then", 0, most[i], v -> {
                LostLanes x = new LostLanes();
                return x.terms(what, v) < 0 ? -1 : x.count(13 + what);
            }, v -> v, -1);
        }
        Due.within("Terms I: TERMS 0 .. 2", 0, 2, w -> new LostLanes().terms(w, 0), w -> 0, -1);
    }

    private static void sets() {
        String t = "Terms I: sets of CORNERS are told as bits";
        LostLanes x = new LostLanes();
        x.lane(0, 7, 1, 0);
        due(t, "dead()", x.dead(), 1 + 128);
        due(t, "posts(0, 1)", x.posts(0, 1), 1 + 128);
        due(t, "gone(1)", x.gone(1), 255);
        LostLanes y = Boroughs.plated(new int[] {0, 7, 1, 2}, new int[] {7, 3, 1, 4});
        y.hear(2);
        y.hear(4);
        due(t, "gone(1), from 0", y.gone(1), 1);
        due(t, "gone(2), to 3", y.gone(2), 8);
    }

    // Terms II, of both languages

    private static void law(String sentence, String text, int fault) {
        due(sentence, "fault() of the law \"" + text + "\"", Lawbook.faultOf(true, text), fault);
    }

    private static void orders(String sentence, String text, int fault) {
        due(sentence, "fault() of the orders \"" + text + "\"", Lawbook.faultOf(false, text), fault);
    }

    private static void tape() {
        String t = "Terms II: a TAPE of at most 400 bytes";
        LostLanes x = new LostLanes();
        for (int i = 1; i <= 20; i++) {
            due(t, "feed", x.feed(0, 0, 0, 0, 0), 20 * i);
        }
        due(t, "feed beyond", x.feed(0, 0, 0, 0, 0), -1);
        due(t, "count(6)", x.count(6), 400);
        law(t, " ".repeat(399) + "x", 399);
        law(t, " ".repeat(395) + "bars", -1);
        law(t, "bars" + " ".repeat(395) + ";", 400);
        law(t, "bars if " + " ".repeat(392), 400);
        law(t, "turns " + "0".repeat(390) + "1000", -1);
        law(t, "turns " + "0".repeat(390) + "1001", 6);
        law(t, "turns " + "9".repeat(394), 6);
        law(t, "z".repeat(400), 0);
        orders(t, "pass if " + "not ".repeat(97) + "1=1 ", -1);
        orders(t, "pass" + " ".repeat(395) + "x", 399);
        LostLanes y = Boroughs.with(new LostLanes(), 0);
        y.force(Due.law(y, "turns " + " ".repeat(392) + "42"));
        due(t, "the last byte is read", y.of(0, 3), 42);
    }

    private static void tokens() {
        String t = "Terms II: longest rows of letters a .. z";
        law(t, "turns`", 5);
        law(t, "turns{", 5);
        law(t, "turns 1`", 7);
        law(t, "`", 0);
        law(t, "{", 0);
        law(t, "turnsz 1", 0);
        law(t, "turnsage", 0);
        law(t, "turn s 1", 0);
        law(t, "Turns 1", 0);
        law(t, "turns agE", 6);
        law(t, "turns age Z", 10);
        law(t, "turns a", 6);
        law(t, "turns z", 6);
        law(t, "turns 1 iff 1 = 1", 8);
        law(t, "turns 1 i", 8);
        String d = "Terms II: longest rows of digits";
        law(d, "turns 0", -1);
        law(d, "turns 9", -1);
        law(d, "turns 1/1", -1);
        law(d, "turns 1:1", 7);
        law(d, "turns 1 0", 8);
        law(d, "turns1if1=1or2=2", -1);
        law(d, "turns 1if 1=1", -1);
        law(d, "turns 1age", 7);
        orders(d, "pass if at0=plate9", -1);
        orders(d, "pass times20if 1=2", -1);
        orders(d, "lead0to1", -1);
        String b = "Terms II: any blanks (32) between";
        law(b, "turns1", -1);
        law(b, "    turns     1    ", -1);
        for (int other : new int[] {0, 9, 10, 13, 31, 33, 127, 128, 160, 255}) {
            LostLanes x = new LostLanes();
            Due.writeBytes(x, 't', 'u', 'r', 'n', 's', other, '1');
            due(b, "law() with the byte " + other, x.law(), -6);
            due(b, "fault() with the byte " + other, x.fault(), 5);
        }
    }

    private static void clauses() {
        String t = "Terms II: CLAUSE {\";\" CLAUSE}, 12 at most (FAULT at the 13th's first TOKEN)";
        for (boolean asLaw : new boolean[] {true, false}) {
            String one = asLaw ? "bars;" : "pass;";
            String twelve = one.repeat(12);
            IntFunction<String> name = n -> (asLaw ? "law" : "orders") + " of clauses: " + n;
            due(t, name.apply(1), Lawbook.faultOf(asLaw, one.substring(0, 4)), -1);
            due(t, name.apply(11), Lawbook.faultOf(asLaw, one.repeat(11).substring(0, 54)), -1);
            due(t, name.apply(12), Lawbook.faultOf(asLaw, twelve.substring(0, 59)), -1);
            due(t, name.apply(13), Lawbook.faultOf(asLaw, twelve + "   " + one), 63);
            due(t, "no 13th clause", Lawbook.faultOf(asLaw, twelve), 60);
            due(t, "no 13th clause, blanks", Lawbook.faultOf(asLaw, twelve + "  "), 62);
            due(t, "a 13th that can't begin so", Lawbook.faultOf(asLaw, twelve + "x"), 60);
            due(t, "another sign behind the 12th", Lawbook.faultOf(asLaw, twelve.substring(0, 59) + ","), 59);
            due(t, "no clause between", Lawbook.faultOf(asLaw, one + ";" + one), 5);
            due(t, "no clause ahead", Lawbook.faultOf(asLaw, ";" + one), 0);
            due(t, "no clause behind", Lawbook.faultOf(asLaw, one), 5);
        }
        LostLanes x = Boroughs.with(new LostLanes(), 0);
        due(t, "the 12th is run", Due.orders(x, "pass;".repeat(11) + "lead 0 to 5"), 12);
        due(t, "the 12th is run", x.of(0, 1), 5);
        x.force(Due.law(x, "bars;".repeat(11) + "turns 44"));
        due(t, "the 12th tells", x.of(0, 3), 44);
    }

    private static void grammarOfTests() {
        String t = "Terms II: TEST, BOTH, PLAIN";
        law(t, "bars if", 7);
        law(t, "bars if or", 8);
        law(t, "bars if and", 8);
        law(t, "bars if not", 11);
        law(t, "bars if not or", 12);
        law(t, "bars if 1=1 or", 14);
        law(t, "bars if 1=1 or or", 15);
        law(t, "bars if 1=1 and", 15);
        law(t, "bars if 1=1 and or", 16);
        law(t, "bars if 1=1 not 1=1", 12);
        law(t, "bars if 1=1 and not 1=1 or not not 1=1", -1);
        law(t, "bars if (", 9);
        law(t, "bars if ()", 9);
        law(t, "bars if (1)", 10);
        law(t, "bars if (1=1", 12);
        law(t, "bars if (1=1]", 12);
        law(t, "bars if 1=1)", 11);
        law(t, "bars if (1=1)=1", 13);
        law(t, "bars if (1=1) (1=1)", 14);
        law(t, "bars if not(1=1)", -1);
        law(t, "bars if (not 1=1)", -1);
        law(t, "bars if 1", 9);
        law(t, "bars if 1=", 10);
        law(t, "bars if =1", 8);
        law(t, "bars if 1==1", 10);
        law(t, "bars if 1<=1", 10);
        law(t, "bars if 1<>1", 10);
        law(t, "bars if 1=1=1", 11);
        law(t, "bars if 1!1", 9);
        law(t, "bars if 1;1", 9);
        law(t, "bars if 1?1", 9);
        law(t, "bars if 1<1 or 1>1 or 1=1", -1);
    }

    private static void grammarOfSums() {
        String t = "Terms II: SUM, TERM, PART";
        law(t, "turns", 5);
        law(t, "turns +1", 6);
        law(t, "turns -1", 6);
        law(t, "turns 1+", 8);
        law(t, "turns 1-", 8);
        law(t, "turns 1*", 8);
        law(t, "turns 1/", 8);
        law(t, "turns 1%", 8);
        law(t, "turns 1++1", 8);
        law(t, "turns 1*-1", 8);
        law(t, "turns [", 7);
        law(t, "turns []", 7);
        law(t, "turns [1", 8);
        law(t, "turns [1)", 8);
        law(t, "turns 1]", 7);
        law(t, "turns (1)", 6);
        law(t, "turns [1=1]", 8);
        law(t, "turns [1][1]", 9);
        law(t, "turns [1]+[2]*[3]-[4]/[5]%[6]", -1);
        law(t, "turns 1,1", 7);
        law(t, "turns 1.1", 7);
        law(t, "turns 1^1", 7);
    }

    private static void numbers() {
        String t = "Terms II: NUMBER (to 1,000)";
        String[] can = {"0", "1", "999", "1000", "0000000000000000000000000001000", "00"};
        String[] cannot = {"1001", "1010", "10000", "9999", "2147483647", "2147483648", "4294967295", "4294967296",
            "4294967297", "18446744073709551616", "18446744073709551617", "0001001"};
        for (String n : can) {
            law(t, "turns " + n, -1);
            law(t, "bars if 1 = " + n, -1);
            orders(t, "pass if 1 > " + n, -1);
        }
        for (String n : cannot) {
            law(t, "turns " + n, 6);
            law(t, "turns 1 + [" + n + "]", 11);
            law(t, "bars if 1 = " + n, 12);
            orders(t, "wander " + n, 7);
            orders(t, "pass if 1 > " + n, 12);
        }
    }

    private static void parts() {
        String t = "Terms II: 50 PARTS that are NUMBERS and words (FAULT at the 51st)";
        String numbers = "turns 1" + "+1".repeat(49);
        law(t, numbers, -1);
        law(t, numbers + "+1", numbers.length() + 1);
        law(t, numbers + "+  [ 1]", numbers.length() + 5);
        law(t, numbers + "+age", numbers.length() + 1);
        law(t, numbers + "+1001", numbers.length() + 1);
        law(t, numbers + "+done", numbers.length() + 1);
        law(t, numbers + ";bars", -1);
        law(t, numbers + ";bars if age", numbers.length() + 9);
        law(t, numbers + ";says 1", numbers.length() + 6);
        String words = "turns age" + "+age".repeat(48);
        law(t, words + "+age", -1);
        law(t, words + "+age-mood", words.length() + 5);
        law(t, "turns [1]" + "+[1]".repeat(49), -1);
        law(t, "turns [1]" + "+[1]".repeat(50), 6 + 4 * 50 + 1);
        String both = "says 1" + "+1".repeat(24) + " if 1=1" + " or 1=1".repeat(11);
        law(t, both, -1);
        law(t, both + "+1", -1);
        law(t, both + "+1+1", both.length() + 3);
        String orders = "pass times 20 if at 0" + "+at 3".repeat(24) + "=plate 0" + "+plate 9".repeat(24);
        orders(t + ", C, L, TIMES aside", orders, -1);
        orders(t + ", C, L, TIMES aside", orders + "+at 1", orders.length() + 1);
        orders(t + ", C, L, TIMES aside", orders + "+plate 1", orders.length() + 1);
        orders(t + ", C, L, TIMES aside", orders + "+1", orders.length() + 1);
        orders(t + ", C, L, TIMES aside", orders + ";pass times 20", -1);
        orders(t + ", C, L, TIMES aside", orders + ";cry 1", orders.length() + 5);
        String at = orders.substring(0, orders.length() - "+plate 9".length());
        orders(t + ", C, L, TIMES aside", at + "+at 4", at.length() + 4);
        LostLanes x = Boroughs.with(new LostLanes(), 0);
        x.force(Due.law(x, numbers));
        due(t, "all 50 tell", x.of(0, 3), 50);
        for (int i = 1; i <= 9; i++) {
            due(t, "text behind text, so", Due.orders(x, "pass if 49 = 1" + "+1".repeat(48)), 1);
            due(t, "text behind text, not so", Due.orders(x, "pass if 48 = 1" + "+1".repeat(48)), 0);
            due(t, "text behind text, a fault at the 51st", Due.orders(x, "pass if 49 = 1" + "+1".repeat(49)), -6);
        }
    }

    private static void brackets() {
        String t = "Terms II: 8 brackets of both kinds within one another (FAULT at the 9th)";
        law(t, "turns " + "[".repeat(8) + "1" + "]".repeat(8), -1);
        law(t, "turns " + "[".repeat(9) + "1" + "]".repeat(9), 14);
        law(t, "turns " + "[".repeat(8) + "1]+[1" + "]".repeat(8), -1);
        law(t, "turns " + "[".repeat(8) + "1]+[[1" + "]".repeat(9), 18);
        law(t, "turns [1]" + "+[1]".repeat(9), -1);
        law(t, "bars if " + "(".repeat(8) + "1=1" + ")".repeat(8), -1);
        law(t, "bars if " + "(".repeat(9) + "1=1" + ")".repeat(9), 16);
        law(t, "bars if " + "(".repeat(8) + "1=1) or (1=1" + ")".repeat(8), -1);
        law(t, "bars if " + "(".repeat(8) + "1=1) or ((1=1" + ")".repeat(9), 25);
        law(t, "bars if " + "(".repeat(7) + "[1]=1" + ")".repeat(7), -1);
        law(t, "bars if " + "(".repeat(8) + "[1]=1" + ")".repeat(8), 16);
        law(t, "bars if " + "(".repeat(8) + "1=[1]" + ")".repeat(8), 18);
        law(t, "bars if (" + "[".repeat(7) + "1" + "]".repeat(7) + "=1)", -1);
        law(t, "bars if (" + "[".repeat(8) + "1" + "]".repeat(8) + "=1)", 16);
        law(t, "turns " + "[".repeat(8) + "1" + "]".repeat(8) + " if " + "(".repeat(8) + "1=1" + ")".repeat(8), -1);
        orders(t, "wander " + "[".repeat(8) + "1" + "]".repeat(8), -1);
        orders(t, "wander " + "[".repeat(9) + "1" + "]".repeat(9), 15);
        orders(t, "pass if " + "(".repeat(9) + "1=1" + ")".repeat(9), 16);
        law(t, "turns " + "[".repeat(8), 14);
        LostLanes x = Boroughs.with(new LostLanes(), 0);
        x.force(Due.law(x, "turns [[[[[[[[1+1]*2]+1]*2]+1]*2]+1]*2]"));
        due(t, "eight reckoned", x.of(0, 3), 46);
        for (int i = 0; i < 9; i++) {
            due(t, "eight that are not closed", Due.law(x, "turns [[[[[[[[1"), -6);
        }
        due(t, "eight, in a text behind those", Due.law(x, "turns [[[[[[[[1]]]]]]]]"), 1);
    }

    private static void faultAtTheEnd() {
        String t = "Terms II: FAULT: the first TOKEN that can't go on there (the end's: the TEXT's length)";
        law(t, "", 0);
        law(t, " ", 1);
        law(t, "turns", 5);
        law(t, "turns ", 6);
        law(t, "turns 1 if 1 = 1 or   ", 22);
        orders(t, "", 0);
        orders(t, "   ", 3);
        orders(t, "lead 0 to   ", 12);
        orders(t, "pass times", 10);
        law(t, "turns 1 , ; x", 8);
        law(t, "x y z", 0);
        law(t, "   x", 3);
        law(t, "turns 1", -1);
    }

    private static void beyond() {
        String t = "Terms II: beyond 1,000,000,000 either way is BROKEN";
        String most = "1000*1000*1000";
        String least = "[0-1000]*1000*1000";
        due(t, "1,000,000,000 by *", Lawbook.turned(most), 99);
        due(t, "-1,000,000,000 by *", Lawbook.turned(least), 0);
        due(t, "1,000,000,000 by +", Lawbook.turned(most + "-1+1"), 99);
        due(t, "1,000,000,001 by +", Lawbook.turned(most + "+1"), 77);
        due(t, "1,000,000,001 by -", Lawbook.turned(most + "-[0-1]"), 77);
        due(t, "-1,000,000,000 by -", Lawbook.turned(least + "+1-1"), 0);
        due(t, "-1,000,000,001 by -", Lawbook.turned(least + "-1"), 77);
        due(t, "-1,000,000,001 by +", Lawbook.turned(least + "+[0-1]"), 77);
        due(t, "1,001,000,000 by *", Lawbook.turned("1000*1000*[1000+1]"), 77);
        due(t, "-1,001,000,000 by *", Lawbook.turned("1000*1000*[0-1000-1]"), 77);
        due(t, "2 to the 32nd by *", Lawbook.turned("[65*1000+536]*[65*1000+536]"), 77);
        due(t, "10 to the 18th by *", Lawbook.turned("[" + most + "]*[" + most + "]"), 77);
        due(t, "it comes back", Lawbook.turned(most + "+1-1"), 77);
        due(t, "it comes back within brackets", Lawbook.turned("[" + most + "+1]-[" + most + "]"), 77);
        due(t, "it comes back by 0", Lawbook.turned("[" + most + "+1]*0"), 77);
        due(t, "a TEST of 1,000,000,000", Lawbook.tested(most + "=" + most), 1);
        due(t, "a TEST of 1,000,000,001 on the left", Lawbook.tested(most + "+1>0"), 2);
        due(t, "a TEST of 1,000,000,001 on the right", Lawbook.tested("0<" + most + "+1"), 2);
        due(t, "a TEST of -1,000,000,000", Lawbook.tested(least + "<0"), 1);
        due(t, "a TEST of -1,000,000,001", Lawbook.tested(least + "-1<0"), 2);
        due(t, "a TEST of both ends", Lawbook.tested(least + "<" + most), 1);
    }

    private static void dividedByNothing() {
        String t = "Terms II: divided by 0 (/ cut towards 0, % what is left then)";
        due(t, "1/0", Lawbook.turned("1/0"), 77);
        due(t, "0/0", Lawbook.turned("0/0"), 77);
        due(t, "1%0", Lawbook.turned("1%0"), 77);
        due(t, "0%0", Lawbook.turned("0%0"), 77);
        due(t, "1/[1-1]", Lawbook.turned("1/[1-1]"), 77);
        due(t, "0*[1/0]", Lawbook.turned("0*[1/0]"), 77);
        due(t, "0/1", Lawbook.turned("0/1"), 0);
        due(t, "1/1", Lawbook.turned("1/1"), 1);
        due(t, "7/2", Lawbook.turned("7/2"), 3);
        due(t, "-7/2", Lawbook.turned("50+[0-7]/2"), 47);
        due(t, "7/-2", Lawbook.turned("50+7/[0-2]"), 47);
        due(t, "-7/-2", Lawbook.turned("50+[0-7]/[0-2]"), 53);
        due(t, "-1/2", Lawbook.turned("50+[0-1]/2"), 50);
        due(t, "7%2", Lawbook.turned("50+7%2"), 51);
        due(t, "-7%2", Lawbook.turned("50+[0-7]%2"), 49);
        due(t, "7%-2", Lawbook.turned("50+7%[0-2]"), 51);
        due(t, "-7%-2", Lawbook.turned("50+[0-7]%[0-2]"), 49);
        due(t, "6%2", Lawbook.turned("50+6%2"), 50);
        due(t, "2%6", Lawbook.turned("2%6"), 2);
        due(t, "the least by -1", Lawbook.turned("[0-1000]*1000*1000/[0-1]"), 99);
        due(t, "the TEST 1/0=1", Lawbook.tested("1/0=1"), 2);
        due(t, "the TEST 1=1%0", Lawbook.tested("1=1%0"), 2);
    }

    private static void asksBehind() {
        String t = "Terms II: \"or\", \"and\" ask what stands behind only if it can still matter";
        due(t, "so or broken", Lawbook.tested("1=1 or 1/0=1"), 1);
        due(t, "not so or broken", Lawbook.tested("1=2 or 1/0=1"), 2);
        due(t, "broken or so", Lawbook.tested("1/0=1 or 1=1"), 2);
        due(t, "so and broken", Lawbook.tested("1=1 and 1/0=1"), 2);
        due(t, "not so and broken", Lawbook.tested("1=2 and 1/0=1"), 0);
        due(t, "broken and not so", Lawbook.tested("1/0=1 and 1=2"), 2);
        due(t, "not so and broken or so", Lawbook.tested("1=2 and 1/0=1 or 1=1"), 1);
        due(t, "not so and broken or not so", Lawbook.tested("1=2 and 1/0=1 or 1=2"), 0);
        due(t, "so or broken and broken", Lawbook.tested("1=1 or 1/0=1 and 1/0=1"), 1);
        due(t, "so or not so, then broken", Lawbook.tested("(1=1 or 1=2) and 1/0=1"), 2);
        due(t, "not so or so or broken", Lawbook.tested("1=2 or 1=1 or 1/0=1"), 1);
        due(t, "so and not so and broken", Lawbook.tested("1=1 and 1=2 and 1/0=1"), 0);
        due(t, "not of so or broken", Lawbook.tested("not (1=1 or 1/0=1)"), 0);
        due(t, "not of broken", Lawbook.tested("not 1/0=1"), 2);
        due(t, "equal", Lawbook.tested("2=2"), 1);
        due(t, "2<2", Lawbook.tested("2<2"), 0);
        due(t, "1<2", Lawbook.tested("1<2"), 1);
        due(t, "3<2", Lawbook.tested("3<2"), 0);
        due(t, "2>2", Lawbook.tested("2>2"), 0);
        due(t, "3>2", Lawbook.tested("3>2"), 1);
        due(t, "1>2", Lawbook.tested("1>2"), 0);
    }

    // Terms II, LAWS

    private static void lawsAndForce() {
        String t = "Terms II: LAWS, 6 at most";
        LostLanes x = Boroughs.with(Boroughs.square(), 0);
        for (int i = 0; i < 6; i++) {
            due(t, "law", Due.law(x, "turns " + (i + 20)), i);
        }
        due(t, "the 7th", Due.law(x, "turns 1"), -5);
        due(t, "count(4)", x.count(4), 6);
        String f = "Terms II: one is in FORCE (NONE at first: no CLAUSE)";
        due(f, "count(12)", x.count(12), -1);
        due(f, "of(0, 3)", x.of(0, 3), 0);
        due(f, "asks(0, 3, 0)", x.asks(0, 3, 0), 4);
        due(f, "asks(0, 3, 1)", x.asks(0, 3, 1), 0);
        due(f, "force(5)", x.force(5), -1);
        due(f, "of(0, 3) by the last law", x.of(0, 3), 25);
        due(f, "force(6)", x.force(6), -2);
        due(f, "force(0)", x.force(0), 5);
        due(f, "of(0, 3) by the first law", x.of(0, 3), 20);
        due(f, "force(NONE)", x.force(-1), 0);
        due(f, "of(0, 3) by none", x.of(0, 3), 0);
        String g = "Terms II: CLAUSE: ((\"turns\" | \"says\") SUM | \"bars\") [\"if\" TEST]";
        law(g, "bars 1", 5);
        law(g, "turns if 1=1", 6);
        law(g, "says", 4);
        law(g, "turns 1 if 1=1 if 1=1", 15);
        law(g, "if 1=1", 0);
        law(g, "1", 0);
        law(g, "wander 1", 0);
        law(g, "pass", 0);
        law(g, "turns 1 times 2", 8);
        law(g, "turns 1 says 1", 8);
    }

    private static void wordsOfLaws() {
        String t = "Terms II: words of LAWS";
        String[] words = {"child", "age", "lane", "long", "sight", "corner", "last", "hour", "mood"};
        LostLanes x = Boroughs.square();
        x.child(4, 0);
        x.child(9, 2);
        x.terms(0, 17);
        x.terms(2, 9);
        int[] ofTurns = {1, 9, -1, -1, -1, 2, -1, 17, 9};
        int[] ofLane = {1, 9, 3, 5, 4, 2, -1, 17, 9};
        x.image(0);
        for (int i = 0; i < words.length; i++) {
            x.back(0);
            Boroughs.under(x, "turns 30 + " + words[i] + "; says 2 + " + words[i] + "; bars if 1 + "
                    + words[i] + " = " + (1 + ofLane[i]));
            due(t + " (turns: lane, long, sight -1)", words[i], x.of(1, 3), 30 + ofTurns[i]);
            due(t + " (says)", words[i], x.asks(1, 3, 0), Math.min(19, 2 + ofLane[i]));
            due(t + " (bars)", words[i], x.asks(1, 3, 1), 1);
        }
        LostLanes three = Boroughs.with(Boroughs.bundle(3), 0);
        for (String word : new String[] {"lane", "long", "sight"}) {
            Boroughs.under(three, "turns 3 + " + word + "; bars if lane = 9");
            due(t + " (turns: lane, long, sight -1)", word + " of one who wanders", three.of(0, 4), 2);
        }
        for (String not : new String[] {"done", "latest", "named", "kids", "at 0", "plate 0", "to", "if", "or", "turns"}) {
            law(t, "turns " + not, 6);
        }
        String l = "Terms II: last: the LANE it went LAST, -1 without";
        LostLanes y = Boroughs.under(Boroughs.with(Boroughs.square(), 0), "turns 5 + last");
        due(l, "without", y.of(0, 3), 4);
        y.force(-1);
        y.wander(0);
        y.force(0);
        due(l, "lane 0", y.of(0, 3), 5);
        y.lead(0, 7);
        due(l, "led elsewhere", y.of(0, 3), 5);
        String h = "Terms II: hour: HOUR as it is then";
        LostLanes z = Boroughs.under(Boroughs.with(new LostLanes(), 0), "turns hour");
        due(h, "at 0", z.of(0, 3), 0);
        z.pass();
        due(h, "at 1", z.of(0, 3), 1);
        z.undo();
        due(h, "undone", z.of(0, 3), 0);
    }

    private static void holds() {
        String t = "Terms II: a CLAUSE HOLDS, if its \"if\" is so, and neither that nor its SUM is BROKEN";
        due(t, "without if", Lawbook.turned("5"), 5);
        due(t, "so", Lawbook.turned("5 if 1=1"), 5);
        due(t, "not so", Lawbook.turned("5 if 1=2"), 77);
        due(t, "a broken if", Lawbook.turned("5 if 1/0=1"), 77);
        due(t, "a broken sum", Lawbook.turned("5/0"), 77);
        due(t, "a broken sum, so", Lawbook.turned("5/0 if 1=1"), 77);
        due(t, "both broken", Lawbook.turned("5/0 if 1/0=0"), 77);
        LostLanes x = Boroughs.with(Boroughs.square(), 0);
        Boroughs.under(x, "says 9; says 1/0; says 8 if 1/0=1; says 7 if 1=2; bars if 1/0=0; bars if 1=2");
        due(t, "says", x.asks(0, 0, 0), 9);
        due(t, "bars", x.asks(0, 0, 1), 0);
        Boroughs.under(x, "says 1/0; turns 1/0");
        due(t, "says, none holds", x.asks(0, 2, 0), 3);
        due(t, "turns, none holds", x.of(0, 3), 0);
    }

    private static void turnsAndSays() {
        String t = "Terms II: TURNS to 0 .. 99 (else the nearest), 0 without";
        due(t, "-1", Lawbook.turned("0-1"), 0);
        due(t, "0", Lawbook.turned("0"), 0);
        due(t, "1", Lawbook.turned("1"), 1);
        due(t, "98", Lawbook.turned("98"), 98);
        due(t, "99", Lawbook.turned("99"), 99);
        due(t, "100", Lawbook.turned("100"), 99);
        due(t, "the last of three", Lawbook.turned("5; turns 6; turns 7"), 7);
        due(t, "the last that holds", Lawbook.turned("5; turns 6; turns 7 if 1=2"), 6);
        due(t, "none", Boroughs.under(Boroughs.with(new LostLanes(), 0), "turns 5 if 1=2").of(0, 3), 0);
        due(t, "says and bars are no turns", Boroughs.under(Boroughs.with(new LostLanes(), 0), "says 5; bars").of(0, 3), 0);
        String s = "Terms II: SAYS 0 .. 19 of a LANE (else the nearest), its SIGHT without";
        String[] sums = {"0-1", "0", "1", "18", "19", "20", "1000*1000"};
        int[] told = {0, 0, 1, 18, 19, 19, 19};
        for (int i = 0; i < sums.length; i++) {
            LostLanes x = Boroughs.under(Boroughs.with(Boroughs.square(), 0), "says 7; says " + sums[i]);
            due(s, sums[i], x.asks(0, 3, 0), told[i]);
        }
        LostLanes y = Boroughs.under(Boroughs.with(Boroughs.square(), 0), "says 5 if lane = 1; turns 3; bars");
        due(s, "the lane's own", y.asks(0, 1, 0), 5);
        due(s, "sight 1", y.asks(0, 0, 0), 1);
        due(s, "sight 4", y.asks(0, 3, 0), 4);
        LostLanes dark = Boroughs.with(Boroughs.line(1), 0);
        due(s, "sight 0", dark.asks(0, 0, 0), 0);
    }

    private static void barred() {
        String t = "Terms II: BARRED from a LANE, if \"bars\" HOLDS";
        LostLanes x = Boroughs.with(Boroughs.square(), 0);
        due(t, "no law", x.asks(0, 0, 1), 0);
        Boroughs.under(x, "bars if lane = 0; bars if lane = 3; turns 1");
        due(t, "the first", x.asks(0, 0, 1), 1);
        due(t, "neither", x.asks(0, 1, 1), 0);
        due(t, "the second", x.asks(0, 3, 1), 1);
        due(t, "barred from all at its corner", x.of(0, 4), -1);
        x.lead(0, 2);
        due(t, "elsewhere it is not", x.of(0, 4), 2);
        Boroughs.under(x, "bars");
        due(t, "without if", x.asks(0, 1, 1), 1);
    }

    // Terms II, ORDERS

    private static void grammarOfOrders() {
        String t = "Terms II: ORDERS: CLAUSE";
        orders(t, "wander", 6);
        orders(t, "cry", 3);
        orders(t, "lead", 4);
        orders(t, "lead 0", 6);
        orders(t, "lead 0 if 1=1", 7);
        orders(t, "lead to 0", 5);
        orders(t, "lead 0 to", 9);
        orders(t, "lead 0 to 1 to 2", 12);
        orders(t, "lead 0 to 1", -1);
        orders(t, "wander 0 to 1", 9);
        orders(t, "cry 0 to 1", 6);
        orders(t, "pass 1", 5);
        orders(t, "pass to 1", 5);
        orders(t, "pass if", 7);
        orders(t, "pass if 1=2 if 1=2", 12);
        orders(t, "pass times 2 if 1=2", -1);
        orders(t, "pass if 1=2 times 2", 12);
        orders(t, "pass times 2 times 2", 13);
        orders(t, "turns 1", 0);
        orders(t, "times 2 pass", 0);
        orders(t, "if 1=1", 0);
    }

    private static void times() {
        String t = "Terms II: TIMES: a NUMBER 1 .. 20";
        orders(t, "pass times 0", 11);
        orders(t, "pass times 00", 11);
        orders(t, "pass times 21", 11);
        orders(t, "pass times 1000", 11);
        orders(t, "pass times 4294967297", 11);
        orders(t, "pass times [1]", 11);
        orders(t, "pass times hour", 11);
        orders(t, "pass times -1", 11);
        orders(t, "pass times", 10);
        orders(t, "pass times 1 + 1", 13);
        due(t, "times 1", Due.orders(new LostLanes(), "pass times 1"), 1);
        due(t, "times 20", Due.orders(new LostLanes(), "pass times 20"), 20);
        due(t, "times 0020", Due.orders(new LostLanes(), "pass times 0020"), 20);
        due(t, "once without", Due.orders(new LostLanes(), "pass"), 1);
        LostLanes x = Boroughs.with(new LostLanes(), 0);
        String often = "lead 0 to 1-at 0 times 20";
        due(t, "12 clauses, 20 times", Due.orders(x, often + (";" + often).repeat(11)), 240);
        due(t, "an even number of times", x.of(0, 1), 0);
    }

    private static void wordsOfOrders() {
        String t = "Terms II: words of ORDERS (C: a NUMBER 0 .. 3, L: 0 .. 9)";
        orders(t, "pass if at 0 = 1", -1);
        orders(t, "pass if at 3 = 1", -1);
        orders(t, "pass if at 4 = 1", 11);
        orders(t, "pass if at 4294967296 = 1", 11);
        orders(t, "pass if at = 1", 11);
        orders(t, "pass if at kids = 1", 11);
        orders(t, "pass if at [0] = 1", 11);
        orders(t, "pass if at", 10);
        orders(t, "pass if plate 0 = 1", -1);
        orders(t, "pass if plate 9 = 1", -1);
        orders(t, "pass if plate 10 = 1", 14);
        orders(t, "pass if plate 4294967296 = 1", 14);
        orders(t, "pass if plate = 1", 14);
        orders(t, "pass if plate", 13);
        String[] others = {"child", "age", "lane", "long", "sight", "corner", "last", "mood", "to", "times"};
        for (String not : others) {
            orders(t, "pass if " + not + " = 1", 8);
        }
        LostLanes x = new LostLanes();
        String empty = "hour = 0 and done = 0 and latest = 0-1 and named = 0 and kids = 0";
        due(t, "words of an empty borough", Due.orders(x, "pass if " + empty), 1);
        String without = "at 0 = 0-1 and at 3 = 0-1 and plate 0 = 0-1 and plate 9 = 0-1";
        due(t, "at, plate: -1 without", Due.orders(x, "pass if " + without), 1);
        LostLanes y = Boroughs.plated(new int[] {0, 1, 1, 0}, new int[] {1, 2, 1, 19}, new int[] {2, 3, 1, -1});
        y.child(1, 0);
        y.child(1, 6);
        due(t, "named, kids", Due.orders(y, "pass if named = 2 and kids = 3"), 1);
        due(t, "plate", Due.orders(y, "pass if plate 0 = 0 and plate 1 = 19 and plate 2 = 0-1 and plate 3 = 0-1"), 1);
        due(t, "at", Due.orders(y, "pass if at 0 = 7 and at 2 = 6 and at 3 = 0-1"), 1);
        due(t, "hour as it is then", Due.orders(y, "pass if hour = 3; pass if hour = 4; pass if hour = 4"), 2);
    }

    private static void runs() {
        String t = "Terms II: ORDERS run CLAUSE by CLAUSE";
        LostLanes x = Boroughs.with(Boroughs.square(), 0);
        due(t, "if asked each time", Due.orders(x, "pass times 20 if hour < 3"), 3);
        due(t, "if not so", Due.orders(x, "wander 9 if 1 = 2"), 0);
        due(t, "if broken", Due.orders(x, "wander 9 if 1/0 = 2"), 0);
        due(t, "sums are not asked then", Due.orders(x, "wander 1/0 if 1 = 2; lead 1/0 to 1/0 if 1/0 = 1"), 0);
        due(t, "none run", x.status(), 0);
        String counted = "pass times 3; pass if 1=2; pass if done = 3; pass if done = 3";
        due(t, "done counts runs, not clauses", Due.orders(x, counted), 4);
        due(t, "done begins anew", Due.orders(x, "pass if done = 0"), 1);
        LostLanes y = Boroughs.with(Boroughs.square(), 0);
        due(t, "latest: -1 ahead of a cry", Due.orders(y, "wander 0 if latest = 0-1; cry 0; wander 0 if latest = 1"), 3);
        due(t, "latest begins anew", Due.orders(y, "wander 0 if latest = 1"), 0);
        String other = "cry 0; lead 0 to 5; pass if latest = 1; lead 0 to 1 if latest = 1";
        due(t, "latest stays behind other orders", Due.orders(y, other), 4);
        String twice = "wander 0; cry 0; lead 0 to 2; wander 0; cry 0; pass if latest = 2";
        due(t, "latest of the latest cry", Due.orders(y, twice), 6);
        LostLanes z = Boroughs.with(Boroughs.line(1), 0);
        due(t, "latest 0 is a name", Due.orders(z, "wander 0; cry 0; pass if latest = 0"), 3);
        due(t, "what can be undone", z.count(5), 3);
    }

    private static void endsIt() {
        String t = "Terms II: one that can't be ends it: all is as it was ahead of it";
        String[] cannot = {"wander 1", "wander 0-1", "cry 1", "lead 1 to 0", "lead 0 to 8", "lead 0 to 0-1", "lead 0 to at 0",
            "wander 1/0", "cry 1/0", "lead 1/0 to 1", "lead 0 to 1/0", "wander 1000*1000*1000+1"};
        for (String order : cannot) {
            LostLanes x = Boroughs.with(Boroughs.square(), 0);
            x.wander(0);
            due(t, order, Due.orders(x, "cry 0; pass times 2; lead 0 to 6; " + order + "; lead 0 to 5"), -3);
            due(t, order + ": stopped()", x.stopped(), 3);
            due(t, order + ": the corner", x.of(0, 1), 1);
            due(t, order + ": the name", x.at(0, 4), -1);
            due(t, order + ": the hour", x.count(13), 0);
            due(t, order + ": what can be undone", x.count(5), 1);
            due(t, order + ": fault()", x.fault(), -1);
        }
        LostLanes x = new LostLanes();
        x.terms(0, 998);
        due(t, "pass to 999", Due.orders(x, "pass"), 1);
        due(t, "pass at 999", Due.orders(x, "pass"), -3);
        due(t, "pass at 999 not run", Due.orders(x, "pass if hour < 999"), 0);
        LostLanes y = Boroughs.with(Boroughs.line(1), 5);
        due(t, "wander without a lane", Due.orders(y, "wander 0"), -3);
        due(t, "cry without a last lane", Due.orders(y, "cry 0"), -3);
        due(t, "the first that can't be", Due.orders(y, "pass times 3; lead 0 to 0 times 2; wander 0"), -3);
        due(t, "stopped() at the second time", y.stopped(), 1);
    }
}
