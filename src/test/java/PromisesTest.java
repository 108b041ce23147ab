/** Promises 1 to 44, one by one: ordinary inputs, the edges that the document names, wrong inputs. */
public final class PromisesTest {
    private PromisesTest() {
    }

    private static void due(int promise, String call, long got, long want) {
        Due.due(promise, call, got, want);
    }

    public static void main(String[] args) {
        newObject();
        lanes();
        children();
        termsAndTape();
        rows();
        lawTexts();
        lawMeaning();
        broken();
        orderTexts();
        orderRuns();
        forces();
        moves();
        passes();
        undos();
        foresight();
        postsOfPolice();
        heard();
        letters();
        toldApart();
        rounds();
        few();
        compares();
        decades();
        images();
        counts();
        statuses();
        Due.close();
    }

    private static LostLanes square() {
        LostLanes x = new LostLanes();
        x.lane(0, 1, 2, 1);
        x.lane(1, 2, 3, 2);
        x.lane(2, 3, 4, 3);
        x.lane(3, 0, 5, 4);
        return x;
    }

    private static void newObject() {
        LostLanes x = new LostLanes();
        due(1, "NONE", LostLanes.NONE, -1);
        int[] counts = {0, 0, 0, 0, 0, 0, 0, 0, 0, 0, 0, 0, -1, 0, 1, 0};
        for (int i = 0; i < counts.length; i++) {
            due(1, "new count(" + i + ")", x.count(i), counts[i]);
        }
        due(1, "new status()", x.status(), 0);
        due(1, "new fault()", x.fault(), -1);
        due(1, "new stopped()", x.stopped(), -1);
        due(1, "new gravel()", x.gravel(), 0);
        due(1, "new dead()", x.dead(), 0);
    }

    private static void lanes() {
        LostLanes x = new LostLanes();
        int[][] bad = {{-1, 1, 1, 0}, {0, 8, 1, 0}, {8, 0, 1, 0}, {0, -1, 1, 0}, {3, 3, 1, 0}, {0, 1, 0, 0},
            {0, 1, 10, 0}, {0, 1, 1, -1}, {0, 1, 1, 5}, {Integer.MIN_VALUE, 1, 1, 1}, {0, 1, Integer.MAX_VALUE, 1}};
        for (int[] b : bad) {
            due(2, "a lane that can't be", x.lane(b[0], b[1], b[2], b[3]), -1);
        }
        due(2, "count(7)", x.count(7), bad.length);
        due(2, "lane(7, 0, 9, 4)", x.lane(7, 0, 9, 4), 0);
        due(3, "at(0, 0)", x.at(0, 0), 7);
        due(3, "at(0, 1)", x.at(0, 1), 0);
        due(3, "at(0, 2)", x.at(0, 2), 9);
        due(3, "at(0, 3)", x.at(0, 3), 4);
        due(3, "at(0, 4)", x.at(0, 4), -1);
        due(3, "at(0, 5)", x.at(0, 5), -1);
        due(3, "at(0, -1)", x.at(0, -1), -1);
        due(3, "at(1, 0)", x.at(1, 0), -1);
        due(3, "at(-1, 0)", x.at(-1, 0), -1);
        for (int i = 1; i < 10; i++) {
            due(2, "lane alike", x.lane(0, 7, 1, 0), i);
        }
        due(2, "the 11th lane", x.lane(0, 1, 1, 0), -5);
        due(2, "the 11th lane that can't be", x.lane(0, 0, 1, 0), -1);
        due(2, "lanes", x.count(0), 10);
        due(2, "refused by -5", x.count(10), 1);
    }

    private static void children() {
        LostLanes x = square();
        due(4, "child(0, 0)", x.child(0, 0), -1);
        due(4, "child(10, 0)", x.child(10, 0), -1);
        due(4, "child(1, 8)", x.child(1, 8), -1);
        due(4, "child(1, -1)", x.child(1, -1), -1);
        due(4, "child(1, 7)", x.child(1, 7), 0);
        due(4, "child(9, 0)", x.child(9, 0), 1);
        due(5, "of(0, 0)", x.of(0, 0), 1);
        due(5, "of(0, 1)", x.of(0, 1), 7);
        due(5, "of(0, 2)", x.of(0, 2), -1);
        due(5, "of(0, 3)", x.of(0, 3), 0);
        due(5, "of(0, 4)", x.of(0, 4), -1);
        due(5, "of(1, 4)", x.of(1, 4), 0);
        due(5, "of(1, 5)", x.of(1, 5), -1);
        due(5, "of(1, -1)", x.of(1, -1), -1);
        due(5, "of(2, 0)", x.of(2, 0), -1);
        due(5, "of(-1, 0)", x.of(-1, 0), -1);
        due(6, "asks(0, 2, 0)", x.asks(0, 2, 0), 3);
        due(6, "asks(0, 2, 1)", x.asks(0, 2, 1), 0);
        due(6, "asks(0, 2, 2)", x.asks(0, 2, 2), -1);
        due(6, "asks(0, 4, 0)", x.asks(0, 4, 0), -1);
        due(6, "asks(2, 0, 0)", x.asks(2, 0, 0), -1);
        due(6, "asks(-1, -1, 0)", x.asks(-1, -1, 0), -1);
        x.child(5, 5);
        x.child(5, 5);
        due(4, "the 5th child", x.child(5, 5), -5);
        due(4, "the 5th child that can't be", x.child(5, 9), -1);
        due(4, "children", x.count(1), 4);
    }

    private static void termsAndTape() {
        LostLanes x = new LostLanes();
        due(7, "terms(0, 999)", x.terms(0, 999), 0);
        due(7, "terms(0, 5)", x.terms(0, 5), 999);
        due(7, "terms(1, 10)", x.terms(1, 10), 1);
        due(7, "terms(2, 9)", x.terms(2, 9), 0);
        due(7, "terms(0, 1000)", x.terms(0, 1000), -1);
        due(7, "terms(1, 11)", x.terms(1, 11), -1);
        due(7, "terms(2, 10)", x.terms(2, 10), -1);
        due(7, "terms(2, -1)", x.terms(2, -1), -1);
        due(7, "terms(3, 0)", x.terms(3, 0), -1);
        due(7, "terms(-1, 0)", x.terms(-1, 0), -1);
        due(7, "HOUR", x.count(13), 5);
        due(7, "CRIES", x.count(14), 10);
        due(7, "MOOD", x.count(15), 9);
        for (int i = 1; i <= 20; i++) {
            due(8, "feed", x.feed(0, 0, 0, 0, 0), 20 * i);
        }
        due(8, "feed beyond 400", x.feed(0, 0, 0, 0, 0), -1);
        due(8, "status() behind feed", x.status(), -1);
        due(9, "end(401)", x.end(401), -1);
        due(9, "end(-1)", x.end(-1), -1);
        due(9, "end(381)", x.end(381), 381);
        due(8, "feed beyond 400 by one", x.feed(0, 0, 0, 0, 0), -1);
        due(9, "end(380)", x.end(380), 380);
        due(9, "end(381) again", x.end(381), -1);
        due(8, "feed to 400", x.feed(0, 0, 0, 0, 0), 400);
        due(9, "end(0)", x.end(0), 0);
        due(9, "count(6)", x.count(6), 0);
        due(9, "refusals by -1", x.count(7), 6);
    }

    private static void rows() {
        LostLanes x = new LostLanes();
        due(10, "row() of nothing", x.row(), -6);
        Due.writeBytes(x, 0, 1, 9, 4, 0, 0, 1, 0, 0, 8, 1, 0, 0, 1, 0, 0, 0, 1, 10, 0, 0, 1, 1, 5, 255, 1, 1, 1,
                7, 6, 1, 0, 1, 2, 3);
        due(10, "row()", x.row(), 2);
        due(11, "gravel()", x.gravel(), 7);
        due(10, "the tape", x.count(6), 0);
        due(10, "at(0, 2)", x.at(0, 2), 9);
        due(10, "at(1, 0)", x.at(1, 0), 7);
        due(10, "row() of nothing", x.row(), -6);
        due(11, "gravel() behind a refused row()", x.gravel(), 7);
        int[] nine = new int[9 * 4];
        for (int i = 0; i < 9; i++) {
            nine[4 * i + 1] = 1;
            nine[4 * i + 2] = 1;
        }
        Due.writeBytes(x, nine);
        due(10, "row() beyond the room", x.row(), 8);
        due(11, "gravel() without room", x.gravel(), 1);
        x.child(1, 0);
        x.wander(0);
        Due.writeBytes(x, 200);
        due(10, "row() of one byte", x.row(), 0);
        due(11, "gravel() of one byte", x.gravel(), 1);
        due(21, "undo() behind row()", x.undo(), -3);
        Due.writeBytes(x, 0, 0, 0, 0);
        x.end(0);
        due(10, "row() behind end(0)", x.row(), -6);
    }

    private static void faultOf(boolean asLaw, String text, int fault) {
        LostLanes x = new LostLanes();
        int told = asLaw ? Due.law(x, text) : Due.orders(x, text);
        if (fault != -1) {
            due(asLaw ? 12 : 13, "\"" + text + "\"", told, -6);
        } else if (asLaw) {
            due(12, "\"" + text + "\"", told, 0);
        }
        due(14, "fault() of \"" + text + "\"", x.fault(), fault);
        due(12, "the tape behind a text", x.count(6), 0);
    }

    private static void lawTexts() {
        faultOf(true, "", 0);
        faultOf(true, "    ", 4);
        faultOf(true, "turns 1", -1);
        faultOf(true, "  turns1if1<2or not(3>4and 5=6);bars;says[sight]  ", -1);
        faultOf(true, "turns 1000", -1);
        faultOf(true, "turns 0001000", -1);
        faultOf(true, "turns 1001", 6);
        faultOf(true, "turns 99999999999999999999", 6);
        faultOf(true, "turns 00000000000000000001", -1);
        faultOf(true, "Turns 1", 0);
        faultOf(true, "turnsz 1", 0);
        faultOf(true, "turnsa 1", 0);
        faultOf(true, "turns{1", 5);
        faultOf(true, "turns`1", 5);
        faultOf(true, "turns 1:", 7);
        faultOf(true, "turns (1)", 6);
        faultOf(true, "turns [1", 8);
        faultOf(true, "turns [1  ", 10);
        faultOf(true, "turns 1 2", 8);
        faultOf(true, "turns 1\n", 7);
        faultOf(true, "turns 1;", 8);
        faultOf(true, "turns 1 ; ; bars", 10);
        faultOf(true, "turns done", 6);
        faultOf(true, "turns -1", 6);
        faultOf(true, "turns 1 + ", 10);
        faultOf(true, "bars if 1", 9);
        faultOf(true, "bars if 1 < 2 < 3", 14);
        faultOf(true, "bars if [1 < 2]", 11);
        faultOf(true, "bars if (1) < 2", 10);
        faultOf(true, "bars if [1] < 2", -1);
        faultOf(true, "bars if not not not 1 = 1", -1);
        faultOf(true, "bars if 1 = 1 or", 16);
        faultOf(true, "bars if 1 = 1 and and", 18);
        faultOf(true, "bars if (1 = 1", 14);
        faultOf(true, "bars if (1 = 1]", 14);
        faultOf(true, "bars if if", 8);
        faultOf(true, "bars times 2", 5);
        faultOf(true, "wander 0", 0);
        faultOf(true, "turns child+age+lane+long+sight+corner+last+hour+mood", -1);
        faultOf(true, "turns [[[[[[[[1]]]]]]]]", -1);
        faultOf(true, "turns [[[[[[[[[1]]]]]]]]]", 14);
        faultOf(true, "bars if ((((([[[1]]]=1)))))", -1);
        faultOf(true, "bars if (((((([[[1]]]=1))))))", 16);
        faultOf(true, "turns [1]+[[1]]+[[[[[[[[1]]]]]]]]", -1);
        faultOf(true, "bars;bars;bars;bars;bars;bars;bars;bars;bars;bars;bars;bars", -1);
        faultOf(true, "bars;bars;bars;bars;bars;bars;bars;bars;bars;bars;bars;bars;", 60);
        faultOf(true, "bars;bars;bars;bars;bars;bars;bars;bars;bars;bars;bars;bars; bars", 61);
        faultOf(true, "bars;bars;bars;bars;bars;bars;bars;bars;bars;bars;bars;bars bars", 60);
        String fifty = "turns 1" + "+1".repeat(29) + ";says age" + "+mood".repeat(19);
        faultOf(true, fifty, -1);
        faultOf(true, fifty + " + 1", fifty.length() + 3);
        faultOf(true, fifty + " + [1]", fifty.length() + 4);
        faultOf(true, fifty + " if lane", fifty.length() + 4);
        faultOf(true, "bars if " + "not ".repeat(95) + "1=1", -1);
        LostLanes x = new LostLanes();
        for (int i = 0; i < 6; i++) {
            due(12, "law", Due.law(x, "turns " + i), i);
        }
        Due.law(x, "turns 1 1");
        due(12, "the 7th law", x.status(), -5);
        due(14, "fault() of a law that was not read", x.fault(), -1);
        due(12, "the tape behind the 7th law", x.count(6), 0);
        due(12, "a 7th law of nothing", x.law(), -5);
        due(12, "laws", x.count(4), 6);
        Due.orders(x, "pass pass");
        Due.law(x, "bars");
        due(14, "fault() stays behind a law that was not read", x.fault(), 5);
    }

    private static void lawMeaning() {
        LostLanes x = square();
        x.lane(0, 4, 7, 0);
        x.child(4, 0);
        x.child(8, 2);
        x.terms(0, 12);
        x.terms(2, 3);
        int[] words = {0, 4, -1, -1, -1, 0, -1, 12, 3};
        String[] names = {"child", "age", "lane", "long", "sight", "corner", "last", "hour", "mood"};
        for (int i = 0; i < words.length; i++) {
            x.image(0);
            x.force(Due.law(x, "turns " + names[i] + " + 10"));
            due(5, "turns by " + names[i], x.of(0, 3), words[i] + 10);
            x.back(0);
        }
        x.wander(1);
        int[] ofLane = {1, 8, 2, 4, 3, 1, 1, 12, 3};
        for (int i = 0; i < ofLane.length; i++) {
            x.image(0);
            x.force(Due.law(x, "says " + names[i]));
            due(6, "says by " + names[i], x.asks(1, 2, 0), ofLane[i]);
            x.back(0);
            x.force(Due.law(x, "bars if " + names[i] + " = " + ofLane[i]));
            due(6, "bars by " + names[i], x.asks(1, 2, 1), 1);
            x.back(0);
        }
        x.force(Due.law(x, "turns 3; turns 100; turns 5 if 1 = 2; says 0 - 5; says 300 if lane = 1"));
        due(5, "turns beyond 99", x.of(0, 3), 99);
        due(6, "says below 0", x.asks(0, 0, 0), 0);
        due(6, "says beyond 19", x.asks(0, 1, 0), 19);
        x.force(Due.law(x, "turns 7; turns 0 - 1 if age = 4; bars if long > 4; bars if sight = 3"));
        due(5, "turns below 0", x.of(0, 3), 0);
        due(5, "turns by the earlier one", x.of(1, 3), 7);
        due(6, "bars by the first", x.asks(0, 3, 1), 1);
        due(6, "bars by the second", x.asks(0, 2, 1), 1);
        due(6, "bars by none", x.asks(0, 1, 1), 0);
        due(6, "says without", x.asks(0, 3, 0), 4);
        due(5, "wander past the barred", x.of(0, 4), 0);
        x.force(Due.law(x, "turns 5"));
        due(5, "the lane by what is left", x.of(0, 4), 4);
        x.force(Due.law(x, "bars"));
        due(5, "barred from all", x.of(0, 4), -1);
        due(17, "wander, barred from all", x.wander(0), -3);
    }

    private static int turned(String sum) {
        LostLanes x = new LostLanes();
        x.child(1, 0);
        x.force(Due.law(x, "turns 77; turns " + sum));
        return x.of(0, 3);
    }

    private static int tested(String test) {
        return turned("1 if " + test) == 1 ? 1 : 0;
    }

    private static void broken() {
        due(12, "1 + 2 * 3", turned("1 + 2 * 3"), 7);
        due(12, "[1 + 2] * 3", turned("[1 + 2] * 3"), 9);
        due(12, "9 - 4 - 3", turned("9 - 4 - 3"), 2);
        due(12, "100 / 7 / 2 * 3 % 4", turned("100 / 7 / 2 * 3 % 4"), 1);
        due(12, "/ cut towards 0", turned("50 + [0 - 7] / 2"), 47);
        due(12, "% what is left then", turned("50 + [0 - 7] % 4"), 47);
        due(12, "% by one below 0", turned("50 + 7 % [0 - 4]"), 53);
        due(12, "1 / 0", turned("1 / 0"), 77);
        due(12, "1 % 0", turned("1 % 0"), 77);
        due(12, "0 * [1 / 0]", turned("0 * [1 / 0]"), 77);
        due(12, "1,000,000,000", turned("1000 * 1000 * 1000"), 99);
        due(12, "1,000,000,001", turned("1000 * 1000 * 1000 + 1"), 77);
        due(12, "-1,000,000,000", turned("[0 - 1000] * 1000 * 1000"), 0);
        due(12, "-1,000,000,001", turned("[0 - 1000] * 1000 * 1000 - 1"), 77);
        due(12, "beyond on the way", turned("1000 * 1000 * 1000 * 1000 / 1000 / 1000 / 1000 / 1000"), 77);
        due(12, "far beyond", turned("[1000 * 1000 * 1000] * [1000 * 1000 * 1000]"), 77);
        due(12, "1 < 2", tested("1 < 2"), 1);
        due(12, "2 < 2", tested("2 < 2"), 0);
        due(12, "3 > 2", tested("3 > 2"), 1);
        due(12, "2 > 2", tested("2 > 2"), 0);
        due(12, "2 = 2", tested("2 = 2"), 1);
        due(12, "2 = 1", tested("2 = 1"), 0);
        due(12, "not 2 = 1", tested("not 2 = 1"), 1);
        due(12, "not not 2 = 1", tested("not not 2 = 1"), 0);
        due(12, "or behind and", tested("1 = 1 or 1 = 1 and 1 = 2"), 1);
        due(12, "and ahead of or", tested("1 = 2 and 1 = 1 or 1 = 1"), 1);
        due(12, "brackets", tested("(1 = 1 or 1 = 1) and 1 = 2"), 0);
        due(12, "not of brackets", tested("not (1 = 1 and 1 = 2)"), 1);
        due(12, "not binds closer", tested("not 1 = 2 or 1 = 1"), 1);
        due(12, "not binds closer than and", tested("not 1 = 2 and 1 = 2"), 0);
        due(12, "or that can't matter", tested("1 = 1 or 1 / 0 = 1"), 1);
        due(12, "or that matters", tested("1 = 2 or 1 / 0 = 1"), 0);
        due(12, "and that can't matter", tested("not (1 = 2 and 1 / 0 = 1)"), 1);
        due(12, "and that matters", tested("not (1 = 1 and 1 / 0 = 1)"), 0);
        due(12, "broken ahead of or", tested("1 / 0 = 1 or 1 = 1"), 0);
        due(12, "not of a broken one", tested("not 1 / 0 = 1"), 0);
        due(12, "skipped by two", tested("1 = 2 and 1 / 0 = 1 and 1 / 0 = 1 or 3 = 3"), 1);
        due(12, "skipped by three", tested("1 = 1 or 1 / 0 = 1 or 1 / 0 = 1 or 1 / 0 = 1"), 1);
        due(12, "skipped within", tested("(1 = 2 or 1 = 1 or 1 / 0 = 1) and (1 = 2 or 2 = 2)"), 1);
        LostLanes x = square();
        x.child(1, 0);
        x.force(Due.law(x, "says 5; says 1 / 0; bars if 1 / 0 = 0; turns 1; turns 2 if 1 % 0 = 0"));
        due(6, "a broken says", x.asks(0, 0, 0), 5);
        due(6, "a broken bars", x.asks(0, 0, 1), 0);
        due(5, "a broken if", x.of(0, 3), 1);
    }

    private static void orderTexts() {
        faultOf(false, "", 0);
        faultOf(false, "  ", 2);
        faultOf(false, "pass", -1);
        faultOf(false, "pass 1", 5);
        faultOf(false, "pass;", 5);
        faultOf(false, "turns 1", 0);
        faultOf(false, "wander", 6);
        faultOf(false, "wander child", 7);
        faultOf(false, "wander 0 to 1", 9);
        faultOf(false, "lead 0 to", 9);
        faultOf(false, "lead 0 1", 7);
        faultOf(false, "pass times", 10);
        faultOf(false, "pass times 0", 11);
        faultOf(false, "pass times 21", 11);
        faultOf(false, "pass times hour", 11);
        faultOf(false, "pass times 20", -1);
        faultOf(false, "pass times 1 times 1", 13);
        faultOf(false, "pass if 1 = 1 times 2", 14);
        faultOf(false, "pass times 2 if 1 = 2", -1);
        faultOf(false, "pass if at 3 = 1", -1);
        faultOf(false, "pass if at 4 = 1", 11);
        faultOf(false, "pass if at = 1", 11);
        faultOf(false, "pass if at [1] = 1", 11);
        faultOf(false, "pass if plate 9 = 1", -1);
        faultOf(false, "pass if plate 10 = 1", 14);
        faultOf(false, "pass if plate", 13);
        faultOf(false, "pass if mood = 1", 8);
        faultOf(false, "pass if hour + done + latest + named + kids + at 0 + plate 0 > 0 - 9", -1);
        faultOf(false, "pass;".repeat(11) + "pass", -1);
        faultOf(false, "pass;".repeat(12) + "pass", 60);
        String fifty = "pass times 20 if at 0" + "+at 1".repeat(24) + "=plate 3" + "+plate 4".repeat(24);
        faultOf(false, fifty, -1);
        faultOf(false, fifty + "+at 1", fifty.length() + 1);
        LostLanes x = new LostLanes();
        Due.orders(x, "pass; wander 0");
        due(15, "stopped()", x.stopped(), 1);
        due(14, "fault() of one that could not be", x.fault(), -1);
        Due.orders(x, "pass,");
        due(15, "stopped() behind a text that can't be", x.stopped(), -1);
        due(14, "fault()", x.fault(), 4);
        Due.orders(x, "cry 0");
        due(15, "stopped()", x.stopped(), 0);
        Due.law(x, "bars");
        due(15, "stopped() behind law()", x.stopped(), 0);
        Due.orders(x, "pass");
        due(15, "stopped() behind orders that were", x.stopped(), -1);
    }

    private static void orderRuns() {
        LostLanes x = square();
        x.child(3, 0);
        x.child(6, 2);
        due(13, "run", Due.orders(x, "wander 0; cry 0; lead 1 to 5 if latest = 1; pass times 3 if done < 5"), 5);
        due(13, "child 0", x.of(0, 1), 1);
        due(13, "child 1", x.of(1, 1), 5);
        due(13, "hour", x.count(13), 2);
        due(13, "to be undone", x.count(5), 5);
        due(21, "undo()", x.undo(), 3);
        due(21, "undo()", x.undo(), 3);
        due(21, "undo()", x.undo(), 2);
        due(13, "none is run", Due.orders(x, "pass if 1 / 0 = 1; wander 9 if 1 = 2; cry 1 / 0 if 1 = 2"), 0);
        due(13, "words", Due.orders(x, "lead 1 to 7 if hour = 0 and done = 0 and latest = 0 - 1 and named = 1"
                + " and kids = 2 and at 0 = 1 and at 1 = 2 and at 2 = 0 - 1 and plate 0 = 1 and plate 1 = 0 - 1"
                + " and plate 9 = 0 - 1"), 1);
        due(13, "led", x.of(1, 1), 7);
        int undoable = x.count(5);
        String[] cannot = {"wander 2", "wander 0 - 1", "wander 1000", "wander 1", "cry 2", "cry 1", "lead 0 to 8",
            "lead 0 to at 0", "lead 2 to 0", "lead 0 to 0 - 1", "wander 1 / 0", "lead 0 to 1 % 0", "lead 1 / 0 to 1"};
        for (String c : cannot) {
            due(13, c, Due.orders(x, "pass times 20; wander 0; cry 0; " + c + "; pass"), -3);
            due(15, "stopped() of " + c, x.stopped(), 3);
            due(13, "hour behind " + c, x.count(13), 0);
            due(13, "child behind " + c, x.of(0, 1), 1);
            due(13, "plate behind " + c, x.at(0, 4), 1);
            due(13, "undoable behind " + c, x.count(5), undoable);
        }
        due(13, "refusals inside are no calls", x.count(8), 0);
        due(13, "calls refused by -3", x.count(9), cannot.length);
        x.terms(0, 990);
        due(13, "beyond 999", Due.orders(x, "pass times 10"), -3);
        due(13, "to 999", Due.orders(x, "pass times 20 if hour < 999"), 9);
        due(13, "as often as told", Due.orders(x, "lead 1 to [at 1 + 1] % 8 times 20; lead 0 to [at 0 + 1] % 8 times 3"), 23);
        due(13, "16 are kept", x.count(5), 16);
        due(13, "12 times 20", Due.orders(x, "lead 1 to [at 1 + 1] % 8 times 20"
                + ";lead 1 to [at 1+1]%8 times 20".repeat(11)), 240);
    }

    private static void forces() {
        LostLanes x = square();
        x.child(3, 0);
        due(16, "force(0) without", x.force(0), -2);
        due(16, "force(NONE)", x.force(-1), -1);
        due(16, "status", x.status(), 0);
        Due.law(x, "turns 1");
        Due.law(x, "turns 2");
        x.wander(0);
        due(16, "a law is not in force by itself", x.of(0, 3), 0);
        due(16, "force(1)", x.force(1), -1);
        due(16, "force(0)", x.force(0), 1);
        due(16, "turns", x.of(0, 3), 1);
        due(16, "force(2)", x.force(2), -2);
        due(16, "force(-2)", x.force(-2), -2);
        due(16, "count(12)", x.count(12), 0);
        due(16, "it leaves what can be undone", x.count(5), 1);
        due(16, "force(-1)", x.force(-1), 0);
        due(16, "none in force", x.of(0, 3), 0);
    }

    private static void moves() {
        LostLanes x = square();
        x.child(3, 0);
        x.child(3, 6);
        due(17, "wander(2)", x.wander(2), -2);
        due(17, "wander(-1)", x.wander(-1), -2);
        due(17, "wander without lanes", x.wander(1), -3);
        due(18, "cry without a last", x.cry(0), -3);
        due(18, "cry(2)", x.cry(2), -2);
        due(17, "wander(0)", x.wander(0), 1);
        due(18, "cry(0)", x.cry(0), 1);
        due(18, "the plate", x.at(0, 4), 1);
        x.force(Due.law(x, "turns 1; says 19"));
        due(18, "cry(0) again", x.cry(0), 19);
        due(17, "wander(0) by a law", x.wander(0), 2);
        due(17, "last", x.of(0, 2), 1);
        due(19, "lead(0, 8)", x.lead(0, 8), -1);
        due(19, "lead(9, 8)", x.lead(9, 8), -1);
        due(19, "lead(0, -1)", x.lead(0, -1), -1);
        due(19, "lead(2, 0)", x.lead(2, 0), -2);
        due(19, "lead(-1, 0)", x.lead(-1, 0), -2);
        due(19, "lead there", x.lead(0, 2), -3);
        due(19, "lead(0, 7)", x.lead(0, 7), 2);
        due(19, "it is there", x.of(0, 1), 7);
        due(19, "last stays", x.of(0, 2), 1);
        due(18, "cry far from the lane", x.cry(0), 19);
        due(18, "its plate", x.at(1, 4), 19);
    }

    private static void passes() {
        LostLanes x = square();
        due(20, "pass() without children", x.pass(), 0);
        x.child(3, 0);
        x.child(4, 6);
        x.child(5, 2);
        due(20, "pass()", x.pass(), 2);
        due(20, "hour", x.count(13), 2);
        due(20, "child 0", x.of(0, 1), 1);
        due(20, "child 1", x.of(1, 1), 6);
        due(20, "child 2", x.of(2, 1), 1);
        x.force(Due.law(x, "bars if hour = 3; turns hour"));
        due(20, "pass() by hour 2", x.pass(), 2);
        due(20, "child 0", x.of(0, 1), 0);
        due(20, "pass() by hour 3", x.pass(), 0);
        x.terms(0, 998);
        due(20, "pass() to 999", x.pass(), 2);
        due(20, "pass() beyond", x.pass(), -3);
        due(20, "hour stays", x.count(13), 999);
    }

    private static void undos() {
        LostLanes x = square();
        due(21, "undo() of nothing", x.undo(), -3);
        x.child(3, 0);
        for (int i = 0; i < 17; i++) {
            x.wander(0);
        }
        due(21, "16 are kept", x.count(5), 16);
        for (int i = 0; i < 16; i++) {
            due(21, "undo()", x.undo(), 0);
        }
        due(21, "the first stays", x.of(0, 1), 1);
        due(21, "undo() beyond 16", x.undo(), -3);
        x.cry(0);
        x.lead(0, 5);
        x.cry(0);
        due(21, "a refused one is not kept", x.lead(0, 5), -3);
        due(21, "count(5)", x.count(5), 3);
        x.hear(3);
        x.forget();
        x.image(0);
        x.force(-1);
        Due.law(x, "bars");
        Due.law(x, "bars bars");
        x.lane(0, 0, 0, 0);
        x.child(0, 0);
        x.terms(3, 0);
        x.row();
        x.back(1);
        x.decades(3, 3);
        due(21, "what leaves it", x.count(5), 3);
        due(21, "undo() of cry", x.undo(), 1);
        due(21, "the name stays", x.at(0, 4), 1);
        due(21, "undo() of lead", x.undo(), 2);
        due(21, "undo() of cry", x.undo(), 1);
        due(21, "no name", x.at(0, 4), -1);
        x.wander(0);
        x.terms(2, 0);
        due(21, "undo() behind terms()", x.undo(), -3);
        x.wander(0);
        x.lane(0, 1, 1, 1);
        due(21, "undo() behind lane()", x.undo(), -3);
        x.wander(0);
        x.child(1, 1);
        due(21, "undo() behind child()", x.undo(), -3);
        x.wander(0);
        x.back(0);
        due(21, "undo() behind back()", x.undo(), -3);
    }

    private static void foresight() {
        LostLanes x = square();
        x.child(3, 0);
        x.child(3, 7);
        due(22, "where(0, 0)", x.where(0, 0), 0);
        due(22, "where(0, 59)", x.where(0, 59), 1);
        due(22, "where(0, 60)", x.where(0, 60), 0);
        due(22, "where(0, 61)", x.where(0, 61), -1);
        due(22, "where(0, -1)", x.where(0, -1), -1);
        due(22, "where(2, 0)", x.where(2, 0), -1);
        due(22, "where(1, 60)", x.where(1, 60), 7);
        due(27, "again(0)", x.again(0), 2);
        due(27, "again(1), it can't", x.again(1), 1);
        due(27, "again(2)", x.again(2), -1);
        due(27, "again(-1)", x.again(-1), -1);
        x.force(Due.law(x, "bars if not lane = 0; bars if hour > 0 and hour < 59"));
        due(27, "again(0) in 60", x.again(0), 60);
        x.force(Due.law(x, "bars if not lane = 0; bars if hour > 0 and hour < 60"));
        due(27, "again(0) in 61", x.again(0), -1);
        x.force(-1);
        x.force(Due.law(x, "bars if not lane = 0 and last = lane or lane = 0 and hour > 1000; bars if hour < 999"));
        x.terms(0, 997);
        due(22, "where(0, 2)", x.where(0, 2), 0);
        due(22, "where(0, 3)", x.where(0, 3), 1);
        due(22, "where(0, 4)", x.where(0, 4), 0);
        due(22, "where beyond 999 (0, 5)", x.where(0, 5), 3);
        due(22, "on paper", x.of(0, 1), 0);
        due(22, "the hour on paper", x.count(13), 997);
        due(23, "far(0, 2)", x.far(0, 2), 5);
        due(23, "far(2, 0)", x.far(2, 0), 5);
        due(23, "far(0, 7)", x.far(0, 7), -1);
        due(23, "far(7, 7)", x.far(7, 7), 0);
        due(23, "far(-1, 0)", x.far(-1, 0), -1);
        due(23, "far(0, 8)", x.far(0, 8), -1);
        x.lane(0, 2, 9, 0);
        due(23, "far by the shorter way", x.far(0, 2), 5);
        x.lane(0, 2, 1, 0);
        due(23, "far by the shorter lane", x.far(0, 2), 1);
        due(24, "found(0, 0)", x.found(0, 0), 0);
        due(24, "found(7, 1)", x.found(7, 1), 0);
        due(24, "found(0, 1)", x.found(0, 1), -1);
        due(24, "found(8, 0)", x.found(8, 0), -1);
        due(24, "found(-1, 0)", x.found(-1, 0), -1);
        due(24, "found(0, 2)", x.found(0, 2), -1);
        LostLanes y = new LostLanes();
        for (int i = 0; i < 7; i++) {
            y.lane(i, i + 1, 9, 0);
        }
        y.child(1, 7);
        y.force(Due.law(y, "bars if 1 = 1"));
        due(24, "found from far", y.found(1, 0), 54);
        due(24, "found from farther than 60", y.found(0, 0), -1);
        y.terms(0, 3);
        due(24, "found one who comes", wanderer().found(0, 0), 2);
    }

    /** A child who goes 3, 2, 1, 0 along lanes of 1. */
    private static LostLanes wanderer() {
        LostLanes x = new LostLanes();
        x.lane(0, 1, 1, 0);
        x.lane(1, 2, 1, 0);
        x.lane(2, 3, 1, 0);
        x.child(1, 3);
        return x;
    }

    private static void postsOfPolice() {
        LostLanes x = wanderer();
        due(25, "post(0)", x.post(0), 3);
        due(25, "post(1)", x.post(1), 0);
        x.child(1, 3);
        x.child(1, 0);
        due(25, "post(0) of three", x.post(0), 1);
        due(25, "post(1) of three", x.post(1), 1);
        due(25, "post(2)", x.post(2), -1);
        due(25, "post(-1)", x.post(-1), -1);
        x.child(1, 7);
        due(25, "post(0), one apart", x.post(0), -1);
        due(25, "post(1), one apart", x.post(1), -1);
        due(25, "post(0) without children", square().post(0), -1);
        due(25, "post(1) without children", square().post(1), -1);
        LostLanes y = new LostLanes();
        y.child(1, 5);
        due(25, "post(0) without lanes", y.post(0), 5);
        due(25, "post(1) without lanes", y.post(1), 0);
        due(26, "posts(0, 0) without lanes", y.posts(0, 0), 0);
        due(26, "posts(0, 1) without lanes", y.posts(0, 1), 0);
        due(26, "posts(0, 0)", x.posts(0, 0), 4);
        due(26, "posts(0, 1)", x.posts(0, 1), 15);
        due(26, "posts(1, 0)", x.posts(1, 0), 2);
        due(26, "posts(1, 1)", x.posts(1, 1), 5);
        due(26, "posts(2, 1)", x.posts(2, 1), 2);
        due(26, "posts(50, 1)", x.posts(50, 1), 1);
        due(26, "posts(51, 0)", x.posts(51, 0), -1);
        due(26, "posts(-1, 0)", x.posts(-1, 0), -1);
        due(26, "posts(1, 2)", x.posts(1, 2), -1);
        due(26, "posts(1, -1)", x.posts(1, -1), -1);
    }

    /** A lane gets its name as a child led to its first end goes along it and cries. */
    private static void name(LostLanes x, int lane, int name) {
        x.image(1);
        int law = Due.law(x, "bars if not lane = " + lane + "; says " + name);
        int was = x.force(law);
        x.lead(0, x.at(lane, 0));
        x.wander(0);
        x.cry(0);
        x.force(was);
    }

    private static LostLanes plated(int[][] lanes) {
        LostLanes x = new LostLanes();
        for (int[] l : lanes) {
            x.lane(l[0], l[1], l[2], 0);
        }
        x.child(1, 7);
        int named = 0;
        for (int i = 0; i < lanes.length; i++) {
            if (lanes[i][3] >= 0) {
                if (named == 6) {
                    throw new IllegalArgumentException("six names at most");
                }
                name(x, i, lanes[i][3]);
                named++;
            }
        }
        return x;
    }

    private static void heard() {
        LostLanes x = plated(new int[][] {{0, 1, 1, 5}, {1, 2, 1, 5}, {2, 0, 1, 6}, {2, 3, 1, 19}, {3, 4, 1, -1}});
        due(30, "gone(0), none heard", x.gone(0), 8);
        due(30, "gone(1), none heard", x.gone(1), 255);
        due(30, "gone(2), none heard", x.gone(2), 255);
        due(28, "hear(-1)", x.hear(-1), -1);
        due(28, "hear(20)", x.hear(20), -1);
        due(28, "hear(5)", x.hear(5), 1);
        due(30, "gone(0)", x.gone(0), 4);
        due(30, "gone(1)", x.gone(1), 7);
        due(28, "hear(5)", x.hear(5), 2);
        due(30, "gone(0)", x.gone(0), 6);
        due(28, "hear(19)", x.hear(19), 3);
        due(30, "gone(0), one lane gone along again", x.gone(0), 2);
        due(30, "gone(1), one lane gone along again", x.gone(1), 5);
        due(30, "gone(2), one lane gone along again", x.gone(2), 8);
        due(30, "gone(3)", x.gone(3), -1);
        due(30, "gone(-1)", x.gone(-1), -1);
        due(28, "hear(0)", x.hear(0), 4);
        due(30, "gone(0), none", x.gone(0), 0);
        due(30, "gone(1), none", x.gone(1), 0);
        due(30, "gone(2), none", x.gone(2), 0);
        x.hear(0);
        due(28, "the sixth", x.hear(0), 6);
        due(28, "the seventh", x.hear(0), -5);
        due(28, "the seventh that can't be", x.hear(20), -1);
        due(28, "it leaves what can be undone", x.count(5) > 0 ? 1 : 0, 1);
        due(29, "forget()", x.forget(), 6);
        due(29, "forget() again", x.forget(), 0);
        due(29, "count(3)", x.count(3), 0);
        due(31, "named(5)", x.named(5), 0);
        due(31, "named(6)", x.named(6), 2);
        due(31, "named(19)", x.named(19), 3);
        due(31, "named(0)", x.named(0), -1);
        due(31, "named(-1), though a lane has none", x.named(-1), -1);
        due(31, "named(20)", x.named(20), -1);
        due(34, "alike()", x.alike(), 1);
        manyAlike();
    }

    /** Ten lanes between the same corners, all named alike by a child who goes to and fro. */
    private static void manyAlike() {
        LostLanes x = new LostLanes();
        for (int i = 0; i < 10; i++) {
            x.lane(0, 1, 1, 3);
        }
        x.child(1, 0);
        x.force(Due.law(x, "turns hour"));
        due(13, "ten wander and cry", Due.orders(x, "pass;cry 0;pass;cry 0;pass;cry 0;pass;cry 0;pass;cry 0"), 10);
        due(13, "ten wander and cry", Due.orders(x, "pass;cry 0;pass;cry 0;pass;cry 0;pass;cry 0;pass;cry 0"), 10);
        due(43, "names", x.count(2), 10);
        due(34, "alike() of ten", x.alike(), 45);
        for (int i = 0; i < 6; i++) {
            x.hear(3);
        }
        due(30, "gone(0) of ten", x.gone(0), 2000000);
        due(30, "gone(1) of ten", x.gone(1), 3);
        due(30, "gone(2) of ten", x.gone(2), 3);
    }

    private static void letters() {
        LostLanes x = plated(new int[][] {{0, 1, 2, -1}, {0, 2, 1, -1}, {1, 3, 1, -1}, {2, 3, 2, -1},
            {4, 3, 5, 7}, {3, 5, 1, 7}, {6, 7, 1, 8}, {1, 2, 9, 9}});
        due(32, "how long", x.letter(0, 7, -1), 3);
        due(32, "the lowest lane", x.letter(0, 7, -2), 4);
        due(32, "the first row of corners", x.letter(0, 7, 0), 1);
        due(32, "the goal", x.letter(0, 7, 1), 3);
        due(32, "beyond", x.letter(0, 7, 2), -1);
        due(32, "far beyond", x.letter(0, 7, Integer.MAX_VALUE), -1);
        due(32, "i -3", x.letter(0, 7, -3), -1);
        due(32, "nearer lane", x.letter(5, 7, -2), 5);
        due(32, "it is there", x.letter(5, 7, -1), 0);
        due(32, "it is there, no corner", x.letter(5, 7, 0), -1);
        due(32, "the nearer end", x.letter(0, 9, 0), 2);
        due(32, "no way", x.letter(0, 8, -1), -1);
        due(32, "no way, no lane", x.letter(0, 8, -2), -1);
        due(32, "no way, no corner", x.letter(0, 8, 0), -1);
        due(32, "no such name", x.letter(0, 3, -2), -1);
        due(32, "letter(8, 7, -1)", x.letter(8, 7, -1), -1);
        due(32, "letter(-1, 7, -1)", x.letter(-1, 7, -1), -1);
        due(32, "letter(0, 20, -1)", x.letter(0, 20, -1), -1);
        due(32, "letter(0, -1, -1)", x.letter(0, -1, -1), -1);
        due(32, "letter(0, -1, -2)", x.letter(0, -1, -2), -1);
        LostLanes y = plated(new int[][] {{0, 3, 2, -1}, {0, 1, 2, -1}, {3, 1, 4, 0}});
        due(32, "the lower end of alike ones", y.letter(0, 0, 0), 1);
        LostLanes z = plated(new int[][] {{0, 5, 1, -1}, {5, 2, 1, -1}, {0, 2, 2, -1}, {0, 4, 1, -1}, {4, 2, 1, -1}, {2, 3, 1, 1}});
        due(32, "2 is ahead of 4 and 5", z.letter(0, 1, 0), 2);
        due(32, "and it ends there", z.letter(0, 1, 1), -1);
    }

    private static void toldApart() {
        LostLanes x = new LostLanes();
        due(33, "apart(0) without lanes", x.apart(0), 0);
        due(33, "apart(1) without lanes", x.apart(1), -1);
        x.lane(0, 1, 1, 0);
        due(33, "one lane", x.apart(0), 1);
        x.lane(2, 3, 1, 0);
        due(33, "two apart", x.apart(0), 1);
        due(33, "both have 0", x.apart(2), 0);
        x.lane(1, 2, 1, 0);
        due(33, "a path", x.apart(0), 2);
        due(33, "its middle", x.apart(3), 1);
        due(33, "apart(4)", x.apart(4), -1);
        due(33, "apart(-1)", x.apart(-1), -1);
        due(33, "apart(MIN)", x.apart(Integer.MIN_VALUE), -1);
        LostLanes five = new LostLanes();
        for (int i = 0; i < 5; i++) {
            for (int j = i + 1; j < 5; j++) {
                five.lane(i, j, 1, 0);
            }
        }
        due(33, "five corners, all joined", five.apart(0), 5);
        LostLanes ten = new LostLanes();
        for (int i = 0; i < 10; i++) {
            ten.lane(i % 3, (i + 1) % 3, 1, 0);
        }
        due(33, "ten that all meet", ten.apart(0), 10);
        due(33, "the last of ten", ten.apart(10), 9);
        LostLanes y = new LostLanes();
        y.lane(0, 1, 1, 0);
        y.lane(2, 3, 1, 0);
        y.lane(1, 2, 1, 0);
        y.lane(0, 3, 1, 0);
        y.lane(0, 2, 1, 0);
        due(33, "the fewest", y.apart(0), 3);
        int[] row = {0, 0, 1, 1, 2};
        for (int i = 0; i < row.length; i++) {
            due(33, "lane " + i, y.apart(1 + i), row[i]);
        }
        LostLanes z = new LostLanes();
        z.lane(0, 1, 1, 0);
        z.lane(1, 2, 1, 0);
        z.lane(3, 4, 1, 0);
        z.lane(2, 3, 1, 0);
        z.lane(0, 4, 1, 0);
        due(33, "a round of five", z.apart(0), 3);
    }

    private static void rounds() {
        LostLanes x = new LostLanes();
        due(35, "round() without lanes", x.round(), 0);
        x.lane(3, 4, 7, 0);
        due(35, "round() of one lane", x.round(), 14);
        due(36, "dead() of one lane", x.dead(), 24);
        x.lane(4, 3, 2, 0);
        due(35, "round() of two lanes", x.round(), 9);
        due(36, "dead() of two lanes", x.dead(), 0);
        x.lane(4, 3, 1, 0);
        due(35, "round() of three lanes", x.round(), 11);
        x.lane(0, 1, 1, 0);
        due(35, "round() apart", x.round(), -1);
        due(36, "dead() apart", x.dead(), 3);
        x.lane(1, 3, 5, 0);
        due(35, "round() joined", x.round(), 7 + 2 + 1 + 1 + 5 + 7);
        due(35, "round() of a square", square().round(), 14);
        LostLanes star = new LostLanes();
        for (int i = 1; i < 8; i++) {
            star.lane(0, i, i, 0);
        }
        due(35, "round() of a star", star.round(), 56);
        due(36, "dead() of a star", star.dead(), 254);
    }

    private static void few() {
        LostLanes x = new LostLanes();
        due(37, "few(0, 1)", x.few(0, 1), -1);
        due(37, "few(21, 1)", x.few(21, 1), -1);
        due(37, "few(1, -1)", x.few(1, -1), -1);
        due(37, "few(1, 100)", x.few(1, 100), -1);
        due(37, "few(20, 0)", x.few(20, 0), 1000000000000L);
        due(37, "few(1, 1)", x.few(1, 1), 900000000000L);
        due(37, "few(2, 3)", x.few(2, 3), 972000000000L);
        due(37, "few(20, 3)", x.few(20, 3), 1000000000000L);
        long none = 1000000000000L;
        for (int i = 0; i < 99; i++) {
            none = none * 9 / 10;
        }
        due(37, "few(1, 99)", x.few(1, 99), none);
        x.terms(1, 10);
        due(37, "all cry: few(3, 2)", x.few(3, 2), 1000000000000L);
        due(37, "all cry: few(2, 2)", x.few(2, 2), 0);
        x.terms(1, 0);
        due(37, "none cries: few(1, 99)", x.few(1, 99), 1000000000000L);
        x.terms(1, 3);
        long[][] part = new long[100][101];
        part[0][0] = 1000000000000L;
        for (int n = 1; n < 100; n++) {
            for (int did = 0; did < n; did++) {
                part[n][did] += part[n - 1][did] * 7 / 10;
                part[n][did + 1] += part[n - 1][did] * 3 / 10;
            }
        }
        for (int n = 0; n < 100; n += 9) {
            long sum = 0;
            for (int k = 1; k <= 20; k++) {
                sum += part[n][k - 1];
                due(37, "few(" + k + ", " + n + ")", x.few(k, n), sum);
            }
        }
    }

    private static void compares() {
        LostLanes x = square();
        x.child(2, 0);
        x.child(2, 7);
        Due.law(x, "turns 1");
        Due.law(x, "bars");
        due(38, "compare(NONE, 0)", x.compare(-1, 0), 1);
        due(38, "compare(0, 0)", x.compare(0, 0), 3);
        due(38, "compare(1, 0), it can't", x.compare(1, 0), 0);
        due(38, "compare(0, 1), no lane", x.compare(0, 1), 7);
        due(38, "compare(2, 0)", x.compare(2, 0), -1);
        due(38, "compare(-2, 0)", x.compare(-2, 0), -1);
        due(38, "compare(0, 2)", x.compare(0, 2), -1);
        due(38, "compare(-1, -1)", x.compare(-1, -1), -1);
        x.force(1);
        due(38, "compare(NONE, 0), another in force", x.compare(-1, 0), 1);
        due(38, "nothing is done", x.of(0, 1), 0);
        due(38, "that in force stays", x.count(12), 1);
    }

    private static void decades() {
        LostLanes x = square();
        due(39, "decades without children", x.decades(1, 1), -3);
        due(39, "decades(-1, 1)", x.decades(-1, 1), -1);
        due(39, "decades(1000001, 1)", x.decades(1000001, 1), -1);
        due(39, "decades(1, 0)", x.decades(1, 0), -1);
        due(39, "decades(1, 61)", x.decades(1, 61), -1);
        x.child(2, 0);
        due(40, "drawn ahead of any", x.drawn(0, 0), -1);
        due(40, "drawn ahead of any", x.drawn(0, 1), -1);
        due(39, "status() of drawn", x.status(), 0);
        x.decades(1000000, 60);
        due(39, "status() of decades(1000000, 60)", x.status(), 0);
        due(39, "on paper", x.of(0, 1), 0);
        due(39, "the hour on paper", x.count(13), 0);
        due(39, "names on paper", x.count(2), 0);
        x.terms(0, 999);
        due(39, "decades at 999", x.decades(7, 60), 0);
        due(40, "drawn at 999", x.drawn(0, 0), 0);
        due(40, "no name", x.drawn(0, 1), -1);
        x.terms(0, 998);
        // 998: s 7 -> 20066, 145287 (of 8: 7), 263316 (of 4: 0): a cry that can't be, then one hour.
        due(39, "decades at 998", x.decades(7, 60), 0);
        due(40, "one hour alone", x.drawn(0, 0), 1);
        due(40, "drawn(1, 0)", x.drawn(1, 0), -1);
        due(40, "drawn(-1, 0)", x.drawn(-1, 0), -1);
        due(40, "drawn(4, 1)", x.drawn(4, 1), -1);
        due(40, "drawn(0, 2)", x.drawn(0, 2), -1);
        due(40, "drawn(0, -1)", x.drawn(0, -1), -1);
        x.child(1, 1);
        due(40, "one who came later", x.drawn(1, 0), -1);
        x.decades(7, 99);
        due(40, "refused ones leave the latest", x.drawn(0, 0), 1);
        x.terms(0, 0);
        byHand(x, 5, 60);
        byHand(x, 999999, 37);
        byHand(x, 0, 1);
    }

    /** The same decades, run by the public calls on the object itself. */
    private static void byHand(LostLanes x, int seed, int n) {
        int named = x.decades(seed, n);
        x.image(0);
        long s = seed;
        for (int i = 0; i < n; i++) {
            s = (s * 1103 + 12345) % 1000003;
            int child = (int) (s % x.count(1));
            s = (s * 1103 + 12345) % 1000003;
            int corner = (int) (s % 8);
            s = (s * 1103 + 12345) % 1000003;
            if (s % 4 < 2) {
                x.cry(child);
            } else if (s % 4 == 2) {
                x.lead(child, corner);
            }
            x.pass();
        }
        due(39, "decades(" + seed + ", " + n + ")", named, x.count(2));
        for (int child = 0; child < x.count(1); child++) {
            due(40, "drawn(" + child + ", 0)", x.drawn(child, 0), x.of(child, 1));
        }
        for (int lane = 0; lane < x.count(0); lane++) {
            due(40, "drawn(" + lane + ", 1)", x.drawn(lane, 1), x.at(lane, 4));
        }
        x.back(0);
    }

    private static void images() {
        LostLanes x = square();
        due(41, "image(-1)", x.image(-1), -1);
        due(41, "image(2)", x.image(2), -1);
        due(42, "back(-1)", x.back(-1), -1);
        due(42, "back(2)", x.back(2), -1);
        due(42, "back(0)", x.back(0), -2);
        x.child(5, 0);
        x.hear(4);
        Due.law(x, "turns 1");
        x.force(0);
        x.terms(2, 8);
        x.wander(0);
        due(41, "image(1)", x.image(1), 0);
        due(41, "it leaves what can be undone", x.count(5), 1);
        due(42, "back(0), only 1 was kept", x.back(0), -2);
        x.lane(5, 6, 1, 1);
        x.child(6, 6);
        x.hear(5);
        Due.law(x, "turns 2");
        x.force(1);
        x.terms(0, 10);
        x.terms(1, 5);
        x.terms(2, 1);
        x.cry(0);
        x.pass();
        Due.law(x, "turns");
        Due.orders(x, "wander 9");
        Due.law(x, "turns");
        Due.writeBytes(x, 1);
        x.row();
        x.decades(3, 4);
        int drawn = x.drawn(1, 0);
        Due.write(x, "turns");
        int refused = x.count(9);
        due(42, "back(1)", x.back(1), 0);
        due(42, "lanes", x.count(0), 4);
        due(42, "children", x.count(1), 1);
        due(42, "names", x.count(2), 0);
        due(42, "heard", x.count(3), 1);
        due(42, "laws", x.count(4), 1);
        due(42, "undoable", x.count(5), 0);
        due(42, "the tape stays", x.count(6), 5);
        due(42, "refusals stay", x.count(9), refused);
        due(42, "force", x.count(12), 0);
        due(42, "hour", x.count(13), 0);
        due(42, "cries", x.count(14), 1);
        due(42, "mood", x.count(15), 8);
        due(42, "corner", x.of(0, 1), 3);
        due(42, "last", x.of(0, 2), 3);
        due(42, "fault stays", x.fault(), 5);
        due(42, "stopped stays", x.stopped(), 0);
        due(42, "gravel stays", x.gravel(), 1);
        due(42, "the latest decades stay", x.drawn(1, 0), drawn);
        due(42, "status()", x.status(), 0);
        x.end(0);
        due(42, "a law in its place", Due.law(x, "turns 50"), 1);
        x.force(1);
        due(42, "that law", x.of(0, 3), 50);
        x.back(1);
        due(42, "images stay", x.of(0, 3), 1);
        x.image(0);
        x.wander(0);
        x.back(1);
        due(42, "an image by itself", x.of(0, 1), 3);
    }

    private static void counts() {
        LostLanes x = square();
        x.child(1, 0);
        x.wander(0);
        x.cry(0);
        x.hear(1);
        Due.law(x, "bars");
        x.force(0);
        Due.write(x, "abc");
        int[] want = {4, 1, 1, 1, 1, 2, 3, 0, 0, 0, 0, 0, 0, 0, 1, 0};
        for (int i = 0; i < want.length; i++) {
            due(43, "count(" + i + ")", x.count(i), want[i]);
        }
        due(43, "count(16)", x.count(16), -1);
        due(43, "count(-1)", x.count(-1), -1);
        due(43, "wander(0)", x.wander(0), -3);
        due(43, "wander(1)", x.wander(1), -2);
        due(43, "law()", x.law(), -6);
        due(43, "terms(4, 4)", x.terms(4, 4), -1);
        for (int i = 7; i < 12; i++) {
            due(43, "count(" + i + ")", x.count(i), i == 10 ? 0 : 1);
        }
        x.at(99, 0);
        x.of(99, 0);
        x.asks(0, 99, 0);
        x.feed(0, 0, 0, 0, 0);
        x.end(99);
        x.where(9, 9);
        x.few(0, 0);
        x.compare(9, 9);
        x.drawn(9, 9);
        x.letter(9, 9, 9);
        due(43, "NONE is no refusal", x.count(7), 1);
        due(43, "NONE is no refusal", x.count(8), 1);
    }

    private static void statuses() {
        LostLanes x = new LostLanes();
        x.lane(0, 0, 0, 0);
        due(44, "lane", x.status(), -1);
        x.lane(0, 1, 1, 0);
        due(44, "lane", x.status(), 0);
        x.child(0, 0);
        due(44, "child", x.status(), -1);
        x.child(1, 0);
        due(44, "child", x.status(), 0);
        x.terms(9, 0);
        due(44, "terms", x.status(), -1);
        x.forget();
        x.fault();
        x.count(99);
        x.end(999);
        due(44, "others leave it", x.status(), -1);
        x.terms(1, 1);
        due(44, "terms", x.status(), 0);
        x.row();
        due(44, "row", x.status(), -6);
        Due.law(x, "bars");
        due(44, "law", x.status(), 0);
        x.law();
        due(44, "law", x.status(), -6);
        Due.orders(x, "pass");
        due(44, "orders", x.status(), 0);
        Due.orders(x, "wander 4");
        due(44, "orders", x.status(), -3);
        x.force(-1);
        due(44, "force", x.status(), 0);
        x.force(5);
        due(44, "force", x.status(), -2);
        x.wander(0);
        due(44, "wander", x.status(), 0);
        x.wander(3);
        due(44, "wander", x.status(), -2);
        x.cry(0);
        due(44, "cry", x.status(), 0);
        x.cry(3);
        due(44, "cry", x.status(), -2);
        x.lead(0, 4);
        due(44, "lead", x.status(), 0);
        x.lead(0, 4);
        due(44, "lead", x.status(), -3);
        x.pass();
        due(44, "pass", x.status(), 0);
        x.back(0);
        due(44, "back", x.status(), -2);
        x.undo();
        due(44, "undo", x.status(), 0);
        x.terms(0, 999);
        x.pass();
        due(44, "pass", x.status(), -3);
        x.hear(0);
        due(44, "hear", x.status(), 0);
        x.undo();
        due(44, "undo", x.status(), -3);
        x.decades(0, 1);
        due(44, "decades", x.status(), 0);
        x.decades(0, 0);
        due(44, "decades", x.status(), -1);
        x.image(0);
        due(44, "image", x.status(), 0);
        x.image(5);
        due(44, "image", x.status(), -1);
        x.back(0);
        due(44, "back", x.status(), 0);
        x.hear(20);
        due(44, "hear", x.status(), -1);
        Due.writeBytes(x, 0, 0, 0, 0);
        x.row();
        due(44, "row", x.status(), 0);
    }
}
