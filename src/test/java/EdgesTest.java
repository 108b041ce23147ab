import java.util.function.Consumer;
import java.util.function.ToIntFunction;

/** The boundaries that each promise names itself, promise by promise; those of the Terms are in TermsTest, PaperTest. */
public final class EdgesTest {
    private EdgesTest() {
    }

    public static void main(String[] args) {
        promise1();
        promises2And4();
        promises3To7();
        promise8();
        promise9();
        promises10And11();
        promise12();
        promise13();
        promise14();
        promise15();
        promise16();
        promises17To20();
        promise21Kept();
        promise21Kinds();
        promise21Ahead();
        promise21Orders();
        promises22To27();
        promises28To31();
        promises32To36();
        promises37And38();
        promises39And40();
        promises41And42();
        promise43();
        promise43Refusals();
        promise44();
        promise44Others();
        lastOf512Calls();
        Due.close();
    }

    private static void due(String sentence, String call, long got, long want) {
        Due.due(sentence, call, got, want);
    }

    private static LostLanes child(int corner) {
        return Boroughs.with(Boroughs.square(), corner);
    }

    private static void promise1() {
        String t = "Promise 1: a borough without lanes";
        int[] counts = {0, 0, 0, 0, 0, 0, 0, 0, 0, 0, 0, 0, -1, 0, 1, 0};
        LostLanes x = new LostLanes();
        for (int what = 0; what < counts.length; what++) {
            due(t, "count(" + what + ")", x.count(what), counts[what]);
        }
        due(t, "status()", x.status(), 0);
        due(t, "fault()", x.fault(), -1);
        due(t, "stopped()", x.stopped(), -1);
        due(t, "gravel()", x.gravel(), 0);
        due(t, "at(0, 0)", x.at(0, 0), -1);
        due(t, "of(0, 0)", x.of(0, 0), -1);
        due(t, "asks(0, 0, 0)", x.asks(0, 0, 0), -1);
        due(t, "where(0, 0)", x.where(0, 0), -1);
        due(t, "far(0, 1)", x.far(0, 1), -1);
        due(t, "found(0, 0)", x.found(0, 0), -1);
        due(t, "post(0)", x.post(0), -1);
        due(t, "posts(0, 0)", x.posts(0, 0), 0);
        due(t, "again(0)", x.again(0), -1);
        due(t, "gone(0)", x.gone(0), 8);
        due(t, "named(0)", x.named(0), -1);
        due(t, "letter(0, 0, -1)", x.letter(0, 0, -1), -1);
        due(t, "apart(0)", x.apart(0), 0);
        due(t, "alike()", x.alike(), 0);
        due(t, "round()", x.round(), 0);
        due(t, "dead()", x.dead(), 0);
        due(t, "compare(-1, 0)", x.compare(-1, 0), -1);
        due(t, "drawn(0, 0)", x.drawn(0, 0), -1);
        due(t, "drawn(0, 1)", x.drawn(0, 1), -1);
        due(t, "forget()", x.forget(), 0);
        due(t, "end(0)", x.end(0), 0);
        due(t, "status() behind all these", x.status(), 0);
        due(t, "row()", x.row(), -6);
        due(t, "law()", x.law(), -6);
        due(t, "orders()", x.orders(), -6);
        due(t, "force(-1)", x.force(-1), -1);
        due(t, "force(0)", x.force(0), -2);
        due(t, "wander(0)", x.wander(0), -2);
        due(t, "cry(0)", x.cry(0), -2);
        due(t, "lead(0, 0)", x.lead(0, 0), -2);
        due(t, "undo()", x.undo(), -3);
        due(t, "decades(0, 1)", x.decades(0, 1), -3);
        due(t, "back(0)", x.back(0), -2);
        due(t, "back(1)", x.back(1), -2);
        due(t, "pass()", x.pass(), 0);
        due(t, "NONE", LostLanes.NONE, -1);
        LostLanes y = new LostLanes();
        due(t, "another object", y.count(13) + y.status() + y.count(9), 0);
    }

    private static void promises2And4() {
        String t = "Promise 2: a LANE: its number. -1 (the same CORNER twice, too); -5";
        LostLanes x = new LostLanes();
        for (int i = 0; i < 10; i++) {
            due(t, "one that can't be", x.lane(7, 7, 9, 4), -1);
            due(t, "lane", x.lane(7, 6, 9, 4), i);
        }
        due(t, "the 11th", x.lane(7, 6, 9, 4), -5);
        due(t, "the 11th that can't be", x.lane(7, 7, 9, 4), -1);
        due(t, "count(0)", x.count(0), 10);
        String c = "Promise 4: a CHILD: its number. -1; -5";
        for (int i = 0; i < 4; i++) {
            due(c, "one that can't be", x.child(10, 7), -1);
            due(c, "child", x.child(9, 7), i);
        }
        due(c, "the 5th", x.child(9, 7), -5);
        due(c, "the 5th that can't be", x.child(9, 8), -1);
        due(c, "count(1)", x.count(1), 4);
    }

    private static void promises3To7() {
        LostLanes x = new LostLanes();
        x.lane(5, 2, 8, 3);
        int[] told = {5, 2, 8, 3, -1};
        for (int what = 0; what < 5; what++) {
            due("Promise 3: of a LANE one CORNER, as told, the other, LONG, SIGHT, the NAME", "at(0, " + what + ")",
                    x.at(0, what), told[what]);
        }
        Due.within("Promise 3: what 0 .. 4", 0, 3, w -> x.at(0, w), w -> told[w], -1);
        due("Promise 3: what 0 .. 4", "at(0, 5)", x.at(0, 5), -1);
        LostLanes y = child(2);
        y.child(3, 7);
        int[] ofChild = {5, 2, -1, 0, 1};
        Due.within("Promise 5: what 0 .. 4", 0, 4, w -> y.of(0, w), w -> ofChild[w], -1);
        due("Promise 5: the CORNER", "of(0, 1)", y.of(0, 1), 2);
        due("Promise 5: the LANE it went LAST (NONE)", "of(0, 2)", y.of(0, 2), -1);
        due("Promise 5: to what it TURNS", "of(0, 3)", y.of(0, 3), 0);
        due("Promise 5: NONE: it can't", "of(1, 4)", y.of(1, 4), -1);
        Due.within("Promise 5: a CHILD", 0, 1, c -> y.of(c, 0), c -> c == 0 ? 5 : 3, -1);
        Due.within("Promise 6: a CHILD (wherever it is)", 0, 1, c -> y.asks(c, 3, 0), c -> 4, -1);
        Due.within("Promise 6: a LANE", 0, 3, l -> y.asks(1, l, 0), l -> l + 1, -1);
        Due.within("Promise 6: what 0, 1", 0, 1, w -> y.asks(1, 3, w), w -> w == 0 ? 4 : 0, -1);
        Boroughs.under(y, "bars if lane = 3");
        due("Promise 6: whether BARRED (1, 0)", "asks(1, 3, 1)", y.asks(1, 3, 1), 1);
        due("Promise 6: whether BARRED (1, 0)", "asks(1, 2, 1)", y.asks(1, 2, 1), 0);
        String t = "Promise 7: a TERM: what it was";
        due(t, "terms(0, 999)", y.terms(0, 999), 0);
        due(t, "terms(0, 1000)", y.terms(0, 1000), -1);
        due(t, "terms(0, 0)", y.terms(0, 0), 999);
        due(t, "terms(1, 10)", y.terms(1, 10), 1);
        due(t, "terms(1, 0)", y.terms(1, 0), 10);
        due(t, "terms(1, 1)", y.terms(1, 1), 0);
        due(t, "terms(2, 9)", y.terms(2, 9), 0);
        due(t, "terms(2, 0)", y.terms(2, 0), 9);
    }

    private static void promise8() {
        String t = "Promise 8: twenty bytes, four of each number, the highest first";
        LostLanes x = new LostLanes();
        due(t, "feed", x.feed(0x00070904, 0x07000100, 0x80010100, 0xFF010100, 0x01FF0100), 20);
        due(t, "row()", x.row(), 2);
        due(t, "gravel(), as 128, 255 are no CORNERS", x.gravel(), 3);
        due(t, "at(0, 0)", x.at(0, 0), 0);
        due(t, "at(0, 1)", x.at(0, 1), 7);
        due(t, "at(0, 2)", x.at(0, 2), 9);
        due(t, "at(0, 3)", x.at(0, 3), 4);
        due(t, "at(1, 0)", x.at(1, 0), 7);
        LostLanes y = Boroughs.with(new LostLanes(), 0);
        Due.write(y, "turns 12; says 7 + 8");
        due(t, "count(6) of a text of twenty", y.count(6), 20);
        y.force(y.law());
        due(t, "that text", y.of(0, 3), 12);
        String m = "Promise 8: NONE, if there would be more than 400";
        LostLanes z = new LostLanes();
        for (int i = 1; i <= 20; i++) {
            due(m, "feed", z.feed(-1, -1, -1, -1, -1), 20 * i);
        }
        due(m, "feed behind 400", z.feed(0, 0, 0, 0, 0), -1);
        due(m, "count(6)", z.count(6), 400);
        z.end(381);
        due(m, "feed behind 381", z.feed(0, 0, 0, 0, 0), -1);
        due(m, "count(6)", z.count(6), 381);
        z.end(380);
        due(m, "feed behind 380", z.feed(0, 0, 0, 0, 0), 400);
        z.end(0);
        due(m, "feed behind 0", z.feed(0, 0, 0, 0, 0), 20);
    }

    private static void promise9() {
        String t = "Promise 9: the TAPE has its first n bytes alone; NONE, if it has not so many, or n is below 0";
        LostLanes x = new LostLanes();
        due(t, "end(0) of none", x.end(0), 0);
        due(t, "end(1) of none", x.end(1), -1);
        Due.write(x, "turns 33");
        due(t, "end(9) of 8", x.end(9), -1);
        due(t, "end(-1) of 8", x.end(-1), -1);
        due(t, "count(6)", x.count(6), 8);
        due(t, "end(8) of 8", x.end(8), 8);
        due(t, "end(7) of 8", x.end(7), 7);
        due(t, "end(8) of 7", x.end(8), -1);
        due(t, "law()", x.law(), 0);
        x.child(1, 0);
        x.force(0);
        due(t, "the first 7 bytes alone", x.of(0, 3), 3);
        LostLanes y = Boroughs.with(new LostLanes(), 0);
        Due.write(y, "turns 99999999999999");
        y.end(6);
        y.feed(0x34322020, 0x20202020, 0x20202020, 0x20202020, 0x20202020);
        due(t, "feed goes on behind them", y.count(6), 26);
        y.force(y.law());
        due(t, "what was behind is gone", y.of(0, 3), 42);
    }

    private static void promises10And11() {
        String t = "Promise 10: a ROW, the TAPE is empty then; -6 the TAPE is empty";
        String g = "Promise 11: GRAVEL in the latest row() that was not REFUSED (0 ahead of any)";
        LostLanes x = new LostLanes();
        due(t, "row() of an empty TAPE", x.row(), -6);
        due(g, "ahead of any, though one was refused", x.gravel(), 0);
        Due.writeBytes(x, 0, 1, 1, 0, 9, 9, 9, 9, 0);
        due(t, "row()", x.row(), 1);
        due(t, "count(6)", x.count(6), 0);
        due(g, "gravel()", x.gravel(), 2);
        due(t, "row() again", x.row(), -6);
        due(g, "behind a refused one", x.gravel(), 2);
        Due.writeBytes(x, 0, 1, 1, 0);
        due(t, "row() of four bytes", x.row(), 1);
        due(g, "none in the latest", x.gravel(), 0);
        Due.writeBytes(x, 0);
        due(t, "row() of one byte", x.row(), 0);
        due(t, "status() of it", x.status(), 0);
        due(t, "count(6)", x.count(6), 0);
        Due.write(x, "bars");
        x.law();
        due(t, "row() behind law()", x.row(), -6);
    }

    private static void promise12() {
        String t = "Promise 12: the TAPE, which is empty then, becomes a LAW: its number";
        LostLanes x = child(0);
        x.wander(0);
        for (int i = 0; i < 6; i++) {
            due(t, "law " + i, Due.law(x, "turns " + i), i);
            due(t, "count(6)", x.count(6), 0);
        }
        String f = "Promise 12: -5 (ahead of reading it; the TAPE is empty then, too)";
        due(f, "the 7th", Due.law(x, "turns 6"), -5);
        due(f, "count(6)", x.count(6), 0);
        due(f, "the 7th, which can't be", Due.law(x, "turns"), -5);
        due(f, "fault()", x.fault(), -1);
        due(f, "count(6)", x.count(6), 0);
        due(f, "the 7th of an empty TAPE", x.law(), -5);
        due(f, "count(4)", x.count(4), 6);
        due(f, "count(11)", x.count(11), 0);
        due("Promise 12: it leaves what can be undone", "count(5)", x.count(5), 1);
        due("Promise 12: it leaves what can be undone", "undo()", x.undo(), 0);
        String b = "Promise 12: -6 (blanks alone: FAULT at the end)";
        LostLanes y = child(0);
        y.wander(0);
        for (int blanks : new int[] {0, 1, 20, 400}) {
            due(b, "law() of blanks: " + blanks, Due.law(y, " ".repeat(blanks)), -6);
            due(b, "fault() of blanks: " + blanks, y.fault(), blanks);
            due(b, "count(6)", y.count(6), 0);
        }
        due(b, "count(4)", y.count(4), 0);
        due(b, "what can be undone", y.count(5), 1);
        due(b, "a law behind them", Due.law(y, "bars"), 0);
    }

    private static void promise13() {
        String t = "Promise 13: ORDERS, the TAPE is empty then: how many were run";
        LostLanes x = child(0);
        due(t, "one", Due.orders(x, "wander 0"), 1);
        due(t, "count(6)", x.count(6), 0);
        due(t, "none", Due.orders(x, "wander 0 if 1 = 2"), 0);
        due(t, "status()", x.status(), 0);
        String c = "Promise 13: -3 one can't be";
        due(c, "a child that is not", Due.orders(x, "pass; wander 1"), -3);
        due(c, "count(6)", x.count(6), 0);
        due(c, "the hour", x.count(13), 0);
        due(c, "count(8), as it is not refused by -2", x.count(8), 0);
        due(c, "a corner that can't be", Due.orders(x, "lead 0 to 8"), -3);
        due(c, "count(7), as it is not refused by -1", x.count(7), 0);
        due(c, "count(9)", x.count(9), 2);
        String b = "Promise 13: -6 (as for law())";
        for (int blanks : new int[] {0, 1, 20, 400}) {
            due(b, "orders() of blanks: " + blanks, Due.orders(x, " ".repeat(blanks)), -6);
            due(b, "fault() of blanks: " + blanks, x.fault(), blanks);
            due(b, "count(6)", x.count(6), 0);
        }
        due(b, "a fault behind a clause that could be run", Due.orders(x, "pass; pass; pas"), -6);
        due(b, "nothing is run", x.count(13), 0);
        due(b, "nothing more can be undone", x.count(5), 1);
    }

    private static void promise14() {
        String t = "Promise 14: FAULT of the latest law(), orders() that read a TEXT: its place; NONE without";
        LostLanes x = new LostLanes();
        due(t, "ahead of any", x.fault(), -1);
        Due.law(x, "bars x");
        due(t, "of a law", x.fault(), 5);
        Due.orders(x, "pass , x");
        due(t, "of orders", x.fault(), 5);
        x.row();
        x.lane(9, 9, 9, 9);
        due(t, "behind other calls", x.fault(), 5);
        Due.law(x, "bars");
        due(t, "of a law without", x.fault(), -1);
        Due.law(x, "");
        due(t, "of an empty TAPE", x.fault(), 0);
        Due.orders(x, "wander 0");
        due(t, "of orders that can't be", x.fault(), -1);
        for (int i = 1; i < 6; i++) {
            Due.law(x, "bars");
        }
        Due.orders(x, "pass times 21");
        Due.law(x, "bars");
        due(t, "behind a law that was not read", x.fault(), 11);
        Due.orders(x, "pass");
        due(t, "of orders without", x.fault(), -1);
    }

    private static void promise15() {
        String t = "Promise 15: which CLAUSE of the latest orders() could not be. NONE";
        LostLanes x = new LostLanes();
        due(t, "ahead of any", x.stopped(), -1);
        Due.orders(x, "wander 0");
        due(t, "the first of one", x.stopped(), 0);
        Due.orders(x, "pass;".repeat(11) + "wander 0");
        due(t, "the last of twelve", x.stopped(), 11);
        Due.law(x, "bars");
        Due.law(x, "bars,");
        x.wander(0);
        due(t, "behind other calls", x.stopped(), 11);
        Due.orders(x, "wander 0 if 1 = 2; cry 0; wander 0");
        due(t, "the first that could not be", x.stopped(), 1);
        Due.orders(x, "pass");
        due(t, "behind orders that were run", x.stopped(), -1);
        Due.orders(x, "cry 0");
        Due.orders(x, "cry");
        due(t, "behind a text that can't be", x.stopped(), -1);
    }

    private static void promise16() {
        String t = "Promise 16: a LAW is in FORCE (NONE: none): which was. -2";
        LostLanes x = child(0);
        x.wander(0);
        due(t, "force(NONE) at first", x.force(-1), -1);
        due(t, "status(), as -1 is what was", x.status(), 0);
        due(t, "count(7)", x.count(7), 0);
        due(t, "force(0) without", x.force(0), -2);
        Due.law(x, "turns 1");
        due(t, "force(0)", x.force(0), -1);
        due(t, "status(), as -1 is what was", x.status(), 0);
        due(t, "force(1) of one", x.force(1), -2);
        due(t, "force(-2)", x.force(-2), -2);
        due(t, "count(12)", x.count(12), 0);
        due(t, "force(0) again", x.force(0), 0);
        due(t, "force(NONE)", x.force(-1), 0);
        due(t, "count(12)", x.count(12), -1);
        due("Promise 16: it leaves what can be undone", "count(5)", x.count(5), 1);
        x.force(0);
        x.undo();
        due("Promise 21: FORCE is not undone", "count(12)", x.count(12), 0);
    }

    private static void promises17To20() {
        LostLanes x = child(0);
        x.child(2, 3);
        x.child(2, 6);
        String w = "Promise 17: to WANDER: the CORNER then. -2; -3";
        Due.within(w, 0, 1, c -> {
            LostLanes y = child(0);
            y.child(2, 3);
            return y.wander(c);
        }, c -> c == 0 ? 1 : 2, -2);
        due(w, "no LANE there", x.wander(2), -3);
        Boroughs.under(x, "bars");
        due(w, "BARRED from all", x.wander(0), -3);
        due(w, "the corner", x.of(0, 1), 0);
        due(w, "last", x.of(0, 2), -1);
        x.force(-1);
        due(w, "to the corner 0", x.wander(0) + x.wander(0), 1);
        String c = "Promise 18: to CRY: the NAME the LANE has then. -2; -3 it went along none";
        due(c, "cry(0)", x.cry(0), 1);
        due(c, "cry(1)", x.cry(1), -3);
        due(c, "cry(2)", x.cry(2), -3);
        due(c, "cry(3)", x.cry(3), -2);
        due(c, "cry(-1)", x.cry(-1), -2);
        LostLanes zero = Boroughs.with(Boroughs.line(1), 0);
        zero.wander(0);
        due(c, "the name 0 is no refusal", zero.cry(0), 0);
        due(c, "status()", zero.status(), 0);
        String l = "Promise 19: to LEAD: the CORNER where it was. -1; -2; -3 it is there";
        due(l, "lead(2, 6)", x.lead(2, 6), -3);
        due(l, "lead(2, 0)", x.lead(2, 0), 6);
        due(l, "from 0", x.lead(2, 7), 0);
        due(l, "status()", x.status(), 0);
        due(l, "lead(3, 0)", x.lead(3, 0), -2);
        due(l, "lead(-1, 0)", x.lead(-1, 0), -2);
        due(l, "lead(2, 8)", x.lead(2, 8), -1);
        due(l, "lead(3, 8)", x.lead(3, 8), -1);
        due(l, "lead(3, -1)", x.lead(3, -1), -1);
        String p = "Promise 20: an HOUR: how many WANDERED. -3";
        due(p, "two of three", x.pass(), 2);
        due(p, "none without children", Boroughs.square().pass(), 0);
        x.terms(0, 999);
        due(p, "at 999", x.pass(), -3);
        due(p, "nobody wandered", x.of(2, 1), 7);
        due(p, "nobody wandered", x.count(5), 0);
        x.terms(0, 998);
        due(p, "at 998", x.pass(), 2);
    }

    private static void promise21Kept() {
        String t = "Promise 21: 16 are kept";
        for (int steps : new int[] {1, 15, 16, 17, 40}) {
            LostLanes x = Boroughs.with(new LostLanes(), 0);
            for (int i = 1; i <= steps; i++) {
                x.lead(0, i % 8);
            }
            int kept = Math.min(steps, 16);
            due(t, "count(5) behind " + steps, x.count(5), kept);
            for (int i = 1; i <= kept; i++) {
                due(t, "undo()", x.undo(), 2);
                due(t, "the corner", x.of(0, 1), (steps - i) % 8);
                due(t, "count(5)", x.count(5), kept - i);
            }
            due(t, "undo() of none", x.undo(), -3);
            due(t, "the corner", x.of(0, 1), (steps - kept) % 8);
            due(t, "a step then", x.lead(0, (steps - kept + 1) % 8), (steps - kept) % 8);
            due(t, "count(5)", x.count(5), 1);
        }
        LostLanes y = Boroughs.with(new LostLanes(), 0);
        due(t, "orders of 20", Due.orders(y, "lead 0 to 1 - at 0 times 20; lead 0 to 7"), 21);
        due(t, "count(5)", y.count(5), 16);
        for (int i = 0; i < 16; i++) {
            y.undo();
        }
        due(t, "the sixth stays", y.of(0, 1), 1);
    }

    private static void promise21Kinds() {
        String t = "Promise 21: undone (CORNERS, LAST, NAMES, HOUR are as they were): 0 .. 3";
        LostLanes x = child(0);
        x.child(2, 2);
        x.wander(0);
        x.cry(0);
        x.lead(0, 5);
        x.pass();
        x.lead(0, 3);
        x.wander(0);
        x.cry(0);
        due(t, "undo() of the second cry", x.undo(), 1);
        due(t, "a name that was none", x.at(2, 4), -1);
        due(t, "undo() of wander", x.undo(), 0);
        due(t, "the corner", x.of(0, 1), 3);
        due(t, "last", x.of(0, 2), 0);
        due(t, "undo() of lead", x.undo(), 2);
        due(t, "the corner", x.of(0, 1), 5);
        due(t, "undo() of pass", x.undo(), 3);
        due(t, "the hour", x.count(13), 0);
        due(t, "the other child's corner", x.of(1, 1), 2);
        due(t, "the other child's last", x.of(1, 2), -1);
        due(t, "undo() of lead", x.undo(), 2);
        due(t, "the corner", x.of(0, 1), 1);
        due(t, "the name", x.at(0, 4), 1);
        due(t, "undo() of cry", x.undo(), 1);
        due(t, "the name", x.at(0, 4), -1);
        due(t, "undo() of wander", x.undo(), 0);
        due(t, "the corner", x.of(0, 1), 0);
        due(t, "last", x.of(0, 2), -1);
        due(t, "status() of undo(), told 0", x.status(), 0);
        due(t, "undo() of none", x.undo(), -3);
    }

    private static void ahead(String call, int left, Consumer<LostLanes> run) {
        LostLanes x = child(0);
        x.image(0);
        x.wander(0);
        x.wander(0);
        run.accept(x);
        due("Promise 21: nothing that was ahead of a lane(), child(), terms(), row(), back() that was not REFUSED",
                "count(5) behind " + call, x.count(5), left);
        due("Promise 21: -3 there is none", "undo() behind " + call, x.undo(), left == 0 ? -3 : 0);
    }

    private static void promise21Ahead() {
        ahead("lane()", 0, x -> x.lane(0, 1, 1, 0));
        ahead("lane() by -1", 2, x -> x.lane(0, 0, 1, 0));
        ahead("child()", 0, x -> x.child(1, 0));
        ahead("child() by -1", 2, x -> x.child(0, 0));
        ahead("terms()", 0, x -> x.terms(0, 0));
        ahead("terms() by -1", 2, x -> x.terms(0, -1));
        ahead("row()", 0, x -> {
            Due.writeBytes(x, 0, 1, 1, 0);
            x.row();
        });
        ahead("row() of GRAVEL alone", 0, x -> {
            Due.writeBytes(x, 0);
            x.row();
        });
        ahead("row() by -6", 2, LostLanes::row);
        ahead("back()", 0, x -> x.back(0));
        ahead("back() by -1", 2, x -> x.back(2));
        ahead("back() by -2", 2, x -> x.back(1));
        ahead("law()", 2, x -> Due.law(x, "bars"));
        ahead("law() by -6", 2, LostLanes::law);
        ahead("orders() by -6", 2, LostLanes::orders);
        ahead("orders() of which none is run", 2, x -> Due.orders(x, "pass if 1 = 2"));
        ahead("orders() by -3", 2, x -> Due.orders(x, "pass times 20; wander 1"));
        ahead("force()", 2, x -> x.force(-1));
        ahead("force() by -2", 2, x -> x.force(0));
        ahead("wander() by -2", 2, x -> x.wander(1));
        ahead("cry() by -2", 2, x -> x.cry(1));
        ahead("lead() by -3", 2, x -> x.lead(0, x.of(0, 1)));
        ahead("hear(), forget()", 2, x -> {
            x.hear(1);
            x.forget();
        });
        ahead("decades()", 2, x -> x.decades(1, 60));
        ahead("image()", 2, x -> x.image(1));
        ahead("feed(), end()", 2, x -> Due.write(x, "bars"));
        String full = "Promise 21: REFUSED by -5 leaves what can be undone";
        LostLanes x = Boroughs.with(Boroughs.bundle(10), 0);
        x.child(1, 0);
        x.child(1, 0);
        x.child(1, 0);
        x.wander(0);
        due(full, "lane()", x.lane(0, 1, 1, 0), -5);
        due(full, "child()", x.child(1, 0), -5);
        due(full, "count(5)", x.count(5), 1);
    }

    private static void promise21Orders() {
        String t = "Promise 21: by ORDERS, too";
        LostLanes x = child(0);
        due(t, "orders()", Due.orders(x, "wander 0; cry 0; lead 0 to 6; pass"), 4);
        due(t, "count(5)", x.count(5), 4);
        for (int kind = 3; kind >= 0; kind--) {
            due(t, "undo()", x.undo(), kind);
        }
        due(t, "the corner", x.of(0, 1), 0);
        due(t, "the name", x.at(0, 4), -1);
        due(t, "the hour", x.count(13), 0);
        LostLanes y = child(0);
        for (int i = 0; i < 16; i++) {
            y.wander(0);
        }
        due(t, "orders() that can't be, behind 16", Due.orders(y, "lead 0 to 7; cry 0; wander 5"), -3);
        for (int i = 0; i < 16; i++) {
            due(t, "undo() of one that was ahead", y.undo(), 0);
        }
        due(t, "the corner", y.of(0, 1), 0);
        due(t, "last", y.of(0, 2), -1);
    }

    private static void promises22To27() {
        LostLanes x = child(0);
        x.child(1, 3);
        Due.within("Promise 22: n HOURS 0 .. 60", 0, 60, n -> x.where(0, n), n -> 0, -1);
        due("Promise 22: n HOURS 0 .. 60", "where(0, 59)", x.where(0, 59), 1);
        Due.within("Promise 22: a CHILD", 0, 1, c -> x.where(c, 0), c -> c == 0 ? 0 : 3, -1);
        LostLanes line = Boroughs.line(9, 9, 9, 9, 9, 9, 9);
        Due.within("Promise 23: NONE (no such CORNERS), from", 0, 7, c -> line.far(c, c == 0 ? 7 : 0), c -> 63, -1);
        Due.within("Promise 23: NONE (no such CORNERS), to", 0, 7, c -> line.far(c == 0 ? 7 : 0, c), c -> 63, -1);
        due("Promise 23: NONE (no way)", "far(0, 4)", x.far(0, 4), -1);
        LostLanes kids = Boroughs.under(Boroughs.with(Boroughs.with(line, 3), 4), "bars");
        Due.within("Promise 24: NONE (no such CORNER)", 0, 7, c -> kids.found(c, 0), c -> c == 0 ? 27 : 36, -1);
        Due.within("Promise 24: NONE (no such CHILD)", 0, 1, c -> kids.found(0, c), c -> c == 0 ? 27 : 36, -1);
        Due.within("Promise 25: what 0, 1", 0, 1, w -> kids.post(w), w -> w == 0 ? 3 : 9, -1);
        Due.within("Promise 26: d 0 .. 50", 0, 50, d -> kids.posts(d, 0), d -> d == 0 ? 8 : 1, -1);
        Due.within("Promise 26: what 0, 1", 0, 1, w -> kids.posts(50, w), w -> w == 0 ? 1 : 4, -1);
        Due.within("Promise 27: NONE (no such CHILD)", 0, 1, c -> kids.again(c), c -> 1, -1);
    }

    private static void promises28To31() {
        LostLanes x = Boroughs.plated(new int[] {0, 1, 1, 19}, new int[] {1, 2, 1, 0}, new int[] {2, 3, 1, 19},
                new int[] {3, 4, 1, 0});
        x.pass();
        int undoable = x.count(5);
        Due.within("Promise 28: a NAME 0 .. 19. -1", 0, 19, n -> {
            x.forget();
            return x.hear(n);
        }, n -> 1, -1);
        x.forget();
        for (int i = 1; i <= 6; i++) {
            due("Promise 28: how many there are", "hear(0)", x.hear(0), i);
        }
        due("Promise 28: -5", "hear(0)", x.hear(0), -5);
        due("Promise 28: -5", "count(3)", x.count(3), 6);
        due("Promise 29: HEARD is nothing then: how many there were", "forget()", x.forget(), 6);
        due("Promise 29: HEARD is nothing then: how many there were", "count(3)", x.count(3), 0);
        due("Promise 29: HEARD is nothing then: how many there were", "gone(0)", x.gone(0), 8);
        due("Promise 29: HEARD is nothing then: how many there were", "forget() again", x.forget(), 0);
        due("Promise 28: it leaves what can be undone", "count(5)", x.count(5), undoable);
        x.hear(19);
        x.hear(0);
        Due.within("Promise 30: what 0 .. 2. NONE for others", 0, 2, w -> x.gone(w), w -> w == 0 ? 3 : 2 + 4 + 16, -1);
        due("Promise 30: CORNERS at which they begin", "gone(1)", x.gone(1), 1 + 4 + 8);
        Due.within("Promise 31: the lowest LANE that has a NAME. NONE", 0, 19, n -> x.named(n), n -> n == 0 ? 1 : 0, -1);
        for (int name = 1; name < 19; name++) {
            due("Promise 31: NONE", "named(" + name + ")", x.named(name), -1);
        }
    }

    private static void promises32To36() {
        LostLanes x = Boroughs.plated(new int[] {0, 1, 1, 0}, new int[] {1, 2, 1, 19}, new int[] {3, 2, 9, -1},
                new int[] {7, 3, 9, -1});
        Due.within("Promise 32: a CORNER", 0, 7, c -> x.letter(c, 19, -1), c -> c == 0 ? 1 : 18, -1);
        Due.within("Promise 32: a NAME", 0, 19, n -> x.letter(7, n, -2), n -> n == 0 ? 0 : 1, -1);
        int[] byI = {1, 18, 3, 2, -1};
        for (int i = -2; i < 3; i++) {
            due("Promise 32: how LONG (i NONE), the LANE (i -2), the i-th CORNER (i 0 on)", "letter(7, 19, " + i + ")",
                    x.letter(7, 19, i), byI[i + 2]);
        }
        due("Promise 32: NONE (others)", "letter(7, 19, -3)", x.letter(7, 19, -3), -1);
        due("Promise 32: NONE (others)", "letter(7, 19, MIN)", x.letter(7, 19, Integer.MIN_VALUE), -1);
        due("Promise 32: NONE (others)", "letter(7, 19, MAX)", x.letter(7, 19, Integer.MAX_VALUE), -1);
        Due.within("Promise 33: how many (what 0), that of LANE l (1 + l). NONE", 0, 4, w -> x.apart(w),
                w -> w == 0 ? 2 : 1, -1);
        due("Promise 33: that of LANE l", "apart(1)", x.apart(1), 0);
        due("Promise 34: how many twos", "alike()", x.alike(), 0);
        due("Promise 35: a ROUND", "round()", x.round(), 40);
        due("Promise 36: DEAD ends", "dead()", x.dead(), 129);
        x.lane(5, 6, 1, 0);
        due("Promise 35: NONE", "round()", x.round(), -1);
        due("Promise 36: DEAD ends", "dead()", x.dead(), 129 + 96);
    }

    /** 1 for all the parts, of which no int is, and other numbers as they are. */
    private static int asWhole(long parts) {
        return parts == 1000000000000L ? 1 : Math.toIntExact(parts);
    }

    private static void promises37And38() {
        LostLanes x = child(0);
        x.terms(1, 10);
        Due.within("Promise 37: k 1 .. 20", 1, 20, k -> asWhole(x.few(k, 19)), k -> k == 1 ? 0 : 1, -1);
        Due.within("Promise 37: n 0 .. 99", 0, 99, n -> asWhole(x.few(20, n)), n -> n == 0 ? 1 : 0, -1);
        x.child(1, 3);
        Due.law(x, "turns 1");
        Due.law(x, "bars");
        Due.within("Promise 38: a LAW (NONE: none). NONE (no such LAW)", -1, 1, l -> x.compare(l, 0),
                l -> l == -1 ? 1 : 0, -1);
        due("Promise 38: a LAW", "compare(0, 0)", x.compare(0, 0), 3);
        Due.within("Promise 38: NONE (no such CHILD)", 0, 1, c -> x.compare(0, c), c -> c == 0 ? 3 : 0, -1);
    }

    private static void promises39And40() {
        String d = "Promise 40: behind the latest DECADES";
        LostLanes x = child(0);
        x.child(1, 2);
        due(d, "ahead of any: a corner", x.drawn(0, 0), -1);
        due(d, "ahead of any: a name", x.drawn(0, 1), -1);
        x.terms(0, 999);
        due("Promise 39: how many LANES have NAMES behind them", "decades(1, 60)", x.decades(1, 60), 0);
        Due.within(d + " the CORNER of CHILD k", 0, 1, k -> x.drawn(k, 0), k -> k == 0 ? 0 : 2, -1);
        due(d + " the NAME of LANE k (NONE)", "drawn(3, 1)", x.drawn(3, 1), -1);
        due(d + ", what", "drawn(0, 2)", x.drawn(0, 2), -1);
        due(d + ", what", "drawn(0, -1)", x.drawn(0, -1), -1);
        LostLanes y = Boroughs.plated(new int[] {0, 1, 1, 0}, new int[] {1, 2, 1, 19}, new int[] {2, 3, 1, -1});
        y.terms(0, 999);
        due("Promise 39: how many LANES have NAMES behind them", "two that had", y.decades(1, 1), 2);
        Due.within(d + " the NAME of LANE k", 0, 1, k -> y.drawn(k, 1), k -> k == 0 ? 0 : 19, -1);
        y.lead(0, 1);
        due(d + " they stay", "drawn(0, 0)", y.drawn(0, 0), 7);
        due("Promise 39: -1", "decades(1, 61)", y.decades(1, 61), -1);
        due(d + " refused ones leave them", "drawn(0, 0)", y.drawn(0, 0), 7);
        y.decades(1, 1);
        due(d + " later ones take their place", "drawn(0, 0)", y.drawn(0, 0), 1);
        due("Promise 39: -3 there are no CHILDREN", "decades(1, 1)", Boroughs.square().decades(1, 1), -3);
        due("Promise 39: -1 ahead of -3", "decades(-1, 1)", Boroughs.square().decades(-1, 1), -1);
    }

    private static void promises41And42() {
        String t = "Promise 42: -1; -2 it was not kept";
        LostLanes x = child(0);
        due(t, "back(0)", x.back(0), -2);
        due(t, "back(1)", x.back(1), -2);
        due(t, "back(2)", x.back(2), -1);
        due(t, "back(-1)", x.back(-1), -1);
        due("Promise 41: IMAGE k is kept: 0; -1", "image(2)", x.image(2), -1);
        due("Promise 41: IMAGE k is kept: 0; -1", "image(-1)", x.image(-1), -1);
        due("Promise 41: IMAGE k is kept: 0; -1", "image(1)", x.image(1), 0);
        due(t, "back(0), 1 was kept", x.back(0), -2);
        due(t, "back(1)", x.back(1), 0);
        due("Promise 41: IMAGE k is kept: 0; -1", "image(0)", x.image(0), 0);
        x.wander(0);
        due("Promise 41: IMAGE k is kept: 0; -1", "image(1) anew", x.image(1), 0);
        due("Promise 41: what can be undone", "count(5)", x.count(5), 1);
        due(t, "back(0)", x.back(0), 0);
        due(t, "the corner by 0", x.of(0, 1), 0);
        due(t, "back(1)", x.back(1), 0);
        due(t, "the corner by 1", x.of(0, 1), 1);
    }

    private static void promise43() {
        String t = "Promise 43: count";
        LostLanes x = Boroughs.plated(new int[] {0, 1, 1, 0}, new int[] {1, 2, 1, 19}, new int[] {2, 3, 1, -1});
        x.child(1, 1);
        x.hear(1);
        x.hear(1);
        x.hear(1);
        Due.law(x, "bars if 1 = 2");
        Due.law(x, "bars if 1 = 2");
        Due.law(x, "bars if 1 = 2");
        x.force(3);
        x.terms(0, 7);
        x.terms(1, 8);
        x.terms(2, 9);
        for (int i = 0; i < 5; i++) {
            x.wander(1);
        }
        Due.write(x, "abcdef");
        int[] counts = {3, 2, 2, 3, 4, 5, 6, 0, 0, 0, 0, 0, 3, 7, 8, 9};
        for (int what = 0; what < counts.length; what++) {
            due(t, "count(" + what + ")", x.count(what), counts[what]);
        }
        Due.within(t + ", NONE for others", 0, 15, w -> x.count(w), w -> counts[w], -1);
    }

    private static void promise43Refusals() {
        String t = "Promise 43: 7 .. 11 how many calls were REFUSED by -1, -2, -3, -5, -6";
        int[] by = {-1, -2, -3, -5, -6};
        LostLanes x = Boroughs.bundle(10);
        for (int kind = 0; kind < 5; kind++) {
            for (int i = 0; i <= kind; i++) {
                int told = kind == 0 ? x.hear(20) : kind == 1 ? x.wander(0) : kind == 2 ? x.undo()
                        : kind == 3 ? x.lane(0, 1, 1, 0) : x.row();
                due(t, "a call refused by " + by[kind], told, by[kind]);
            }
        }
        for (int kind = 0; kind < 5; kind++) {
            due(t, "count(" + (7 + kind) + ")", x.count(7 + kind), kind + 1);
        }
        x.image(0);
        x.hear(20);
        x.back(0);
        due(t + " (IMAGES do not keep that)", "count(7)", x.count(7), 2);
    }

    private static void status(LostLanes x, String call, int by, ToIntFunction<LostLanes> run) {
        // One that is refused otherwise stands ahead of it, so that each call is seen to tell its own.
        if (by == -2) {
            x.image(9);
        } else {
            x.force(9);
        }
        run.applyAsInt(x);
        due("Promise 44: what the latest call was REFUSED by; 0 if it was not", "status() of " + call, x.status(), by);
    }

    private static void promise44() {
        LostLanes x = new LostLanes();
        due("Promise 44: 0 ahead of any", "status()", x.status(), 0);
        status(x, "lane by -1", -1, y -> y.lane(0, 0, 1, 0));
        status(x, "lane", 0, y -> y.lane(0, 1, 1, 0));
        status(x, "child by -1", -1, y -> y.child(0, 0));
        status(x, "decades by -3", -3, y -> y.decades(1, 1));
        status(x, "child", 0, y -> y.child(1, 0));
        status(x, "terms by -1", -1, y -> y.terms(0, -1));
        status(x, "terms", 0, y -> y.terms(0, 1));
        status(x, "row by -6", -6, LostLanes::row);
        status(x, "row", 0, y -> {
            Due.writeBytes(y, 0, 1, 1, 0);
            return y.row();
        });
        status(x, "law by -6", -6, LostLanes::law);
        status(x, "law", 0, y -> Due.law(y, "turns 1"));
        status(x, "orders by -6", -6, LostLanes::orders);
        status(x, "orders by -3", -3, y -> Due.orders(y, "wander 1"));
        status(x, "orders", 0, y -> Due.orders(y, "wander 0"));
        status(x, "force by -2", -2, y -> y.force(1));
        status(x, "force", 0, y -> y.force(0));
        status(x, "wander by -2", -2, y -> y.wander(1));
        status(x, "wander", 0, y -> y.wander(0));
        status(x, "cry by -2", -2, y -> y.cry(1));
        status(x, "cry", 0, y -> y.cry(0));
        status(x, "lead by -1", -1, y -> y.lead(1, 8));
        status(x, "lead by -2", -2, y -> y.lead(1, 0));
        status(x, "lead by -3", -3, y -> y.lead(0, y.of(0, 1)));
        status(x, "lead", 0, y -> y.lead(0, 5));
        status(x, "wander by -3", -3, y -> y.wander(0));
        status(x, "pass", 0, LostLanes::pass);
        status(x, "undo", 0, LostLanes::undo);
        status(x, "hear by -1", -1, y -> y.hear(20));
        status(x, "hear", 0, y -> y.hear(19));
        status(x, "decades by -1", -1, y -> y.decades(1, 0));
        status(x, "decades", 0, y -> y.decades(1, 1));
        status(x, "image by -1", -1, y -> y.image(2));
        status(x, "back by -1", -1, y -> y.back(2));
        status(x, "back by -2", -2, y -> y.back(0));
        status(x, "image", 0, y -> y.image(0));
        status(x, "back", 0, y -> y.back(0));
        status(x, "undo by -3", -3, LostLanes::undo);
        x.terms(0, 999);
        status(x, "pass by -3", -3, LostLanes::pass);
        LostLanes full = Boroughs.bundle(10);
        for (int i = 0; i < 6; i++) {
            full.child(1, 1);
            full.hear(1);
            Due.law(full, "bars");
        }
        status(full, "lane by -5", -5, y -> y.lane(0, 1, 1, 0));
        status(full, "child by -5", -5, y -> y.child(1, 1));
        status(full, "hear by -5", -5, y -> y.hear(1));
        status(full, "law by -5", -5, LostLanes::law);
        status(full, "cry by -3", -3, y -> y.cry(0));
    }

    /** All calls that the promise does not name, answered or not. */
    private static void promise44Others() {
        String t = "Promise 44: other calls leave it";
        for (int by : new int[] {0, -1}) {
            LostLanes x = child(0);
            x.hear(by == 0 ? 1 : 20);
            for (int n : new int[] {0, 99}) {
                x.at(n, 0);
                x.of(n, 0);
                x.asks(n, 0, 0);
                x.end(n);
                x.gravel();
                x.fault();
                x.stopped();
                x.where(n, 0);
                x.far(n, 0);
                x.found(n, 0);
                x.post(n);
                x.posts(n, 0);
                x.again(n);
                x.forget();
                x.gone(n);
                x.named(n);
                x.letter(n, 0, 0);
                x.apart(n);
                x.alike();
                x.round();
                x.dead();
                x.few(n + 1, 0);
                x.compare(n, 0);
                x.drawn(n, 0);
                x.count(n);
            }
            for (int i = 0; i < 21; i++) {
                x.feed(0, 0, 0, 0, 0);
            }
            due(t, "status()", x.status(), by);
        }
    }

    private static void lastOf512Calls() {
        String t = "An object is used for at most 512 calls";
        LostLanes x = new LostLanes();
        for (int i = 0; i < 511; i++) {
            x.lane(0, 0, 0, 0);
        }
        due(t, "count(7), the 512th", x.count(7), 511);
        LostLanes y = Boroughs.with(Boroughs.line(1), 0);
        for (int i = 0; i < 508; i++) {
            y.pass();
        }
        due(t, "count(13), the 511th", y.count(13), 508);
        due(t, "undo(), the 512th", y.undo(), 3);
    }
}
