import java.util.function.Consumer;
import java.util.function.Supplier;
import java.util.function.ToLongFunction;

/**
 * Terms I, "REFUSED by: .. The first of these in that order", and each promise's own refusals and answers of NONE: by
 * which number a call is refused, and that all else is as it was.
 */
public final class RefusalsTest {
    private static final int MIN = Integer.MIN_VALUE;
    private static final int MAX = Integer.MAX_VALUE;

    private RefusalsTest() {
    }

    public static void main(String[] args) {
        lanesAndChildren();
        termsAndTape();
        texts();
        laws();
        steps();
        stepsOfOrders();
        undos();
        heard();
        decades();
        images();
        firstInOrder();
        nonesOfLanesAndChildren();
        nonesOfWays();
        nonesOfNames();
        nonesOfTheRest();
        onPaper();
        Due.close();
    }

    /** All that there is stands in it: names, steps to undo, laws, an image, a fault, gravel, a tape. */
    private static LostLanes rich() {
        return rich(x -> { }, x -> { });
    }

    /** Early calls may take away what can be undone, late ones come behind all. */
    private static LostLanes rich(Consumer<LostLanes> early, Consumer<LostLanes> late) {
        LostLanes x = Boroughs.square();
        x.lane(0, 4, 6, 0);
        x.lane(4, 1, 7, 2);
        x.child(5, 0);
        x.child(3, 2);
        x.child(9, 7);
        Boroughs.under(x, "turns hour + age; says sight + 3");
        Due.law(x, "turns 1; bars if lane = last");
        x.terms(2, 4);
        x.terms(1, 6);
        x.terms(0, 20);
        x.wander(0);
        x.cry(0);
        x.decades(5, 9);
        x.image(1);
        Due.writeBytes(x, 5, 6, 1, 1, 9, 9, 9, 9, 1);
        x.row();
        early.accept(x);
        Due.orders(x, "pass; wander 9");
        x.hear(7);
        x.hear(7);
        Boroughs.leadTo(x, 0, 2);
        x.wander(0);
        x.cry(0);
        x.lead(1, 3);
        x.pass();
        Due.law(x, "turns 1 1");
        Due.write(x, "says 7; turns 3 if age > 4");
        late.accept(x);
        return x;
    }

    private static Supplier<LostLanes> early(Consumer<LostLanes> calls) {
        return () -> rich(calls, x -> { });
    }

    private static Supplier<LostLanes> late(Consumer<LostLanes> calls) {
        return () -> rich(x -> { }, calls);
    }

    private static void refused(int promise, String call, int by, ToLongFunction<LostLanes> run) {
        Twins.refused("Promise " + promise, call, by, RefusalsTest::rich, run);
    }

    private static void none(int promise, String call, ToLongFunction<LostLanes> run) {
        Twins.untouched("Promise " + promise, call, -1, RefusalsTest::rich, run);
    }

    private static void fillLanes(LostLanes x) {
        while (x.count(0) < 10) {
            x.lane(0, 7, 1, 1);
        }
    }

    private static void fillChildren(LostLanes x) {
        while (x.count(1) < 4) {
            x.child(1, 1);
        }
    }

    private static void fillLaws(LostLanes x) {
        while (x.count(4) < 6) {
            Due.law(x, "bars if 1 = 2");
        }
    }

    private static void fillHeard(LostLanes x) {
        while (x.count(3) < 6) {
            x.hear(7);
        }
    }

    private static void lanesAndChildren() {
        int[][] lanes = {{-1, 1, 1, 0}, {8, 1, 1, 0}, {1, -1, 1, 0}, {1, 8, 1, 0}, {1, 2, 0, 0}, {1, 2, 10, 0},
            {1, 2, 1, -1}, {1, 2, 1, 5}, {0, 0, 1, 0}, {7, 7, 1, 0}, {MIN, MAX, MIN, MAX}};
        for (int[] l : lanes) {
            refused(2, "lane(" + l[0] + ", " + l[1] + ", " + l[2] + ", " + l[3] + ")", -1,
                    x -> x.lane(l[0], l[1], l[2], l[3]));
        }
        Twins.refused("Promise 2", "the 11th lane", -5, early(RefusalsTest::fillLanes), x -> x.lane(0, 1, 1, 0));
        int[][] children = {{0, 0}, {10, 0}, {1, -1}, {1, 8}, {MIN, 0}, {MAX, 0}, {1, MIN}, {1, MAX}};
        for (int[] c : children) {
            refused(4, "child(" + c[0] + ", " + c[1] + ")", -1, x -> x.child(c[0], c[1]));
        }
        Twins.refused("Promise 4", "the 5th child", -5, early(RefusalsTest::fillChildren), x -> x.child(1, 0));
    }

    private static void termsAndTape() {
        int[][] terms = {{-1, 0}, {3, 0}, {0, -1}, {0, 1000}, {1, -1}, {1, 11}, {2, -1}, {2, 10}, {MIN, 0}, {MAX, 0}};
        for (int[] t : terms) {
            refused(7, "terms(" + t[0] + ", " + t[1] + ")", -1, x -> x.terms(t[0], t[1]));
        }
        Twins.untouched("Promise 8", "feed() behind 400 bytes", -1, late(x -> {
            x.end(20);
            feedTo(x, 400);
        }), x -> x.feed(1, 2, 3, 4, 5));
        Twins.untouched("Promise 8", "feed() behind 381 bytes", -1, late(x -> {
            x.end(1);
            feedTo(x, 381);
        }), x -> x.feed(1, 2, 3, 4, 5));
        for (int n : new int[] {-1, 27, MIN, MAX}) {
            none(9, "end(" + n + ") of 26 bytes", x -> x.end(n));
        }
        Twins.untouched("Promise 9", "end(1) of no bytes", -1, late(x -> x.end(0)), x -> x.end(1));
        Twins.refused("Promise 10", "row() of an empty tape", -6, late(x -> x.end(0)), LostLanes::row);
    }

    private static void feedTo(LostLanes x, int bytes) {
        while (x.count(6) < bytes) {
            x.feed(0x20202020, 0x20202020, 0x20202020, 0x20202020, 0x20202020);
        }
    }

    /** The tape is empty behind each of them; the one ahead had the same fault, so that this is seen to be all. */
    private static void texts() {
        Twins.refused("Promise 12", "law() of an empty tape", -6, late(x -> lawOf(x, "")), LostLanes::law);
        Twins.refused("Promise 12", "law() of blanks alone", -6, late(x -> {
            lawOf(x, "   ");
            Due.write(x, "   ");
        }), LostLanes::law, x -> x.end(0));
        Twins.refused("Promise 12", "law() of a fault at 5", -6, late(x -> {
            lawOf(x, "bars bars");
            Due.write(x, "bars ,");
        }), LostLanes::law, x -> x.end(0));
        Twins.refused("Promise 12", "the 7th law", -5, early(RefusalsTest::fillLaws), LostLanes::law, x -> x.end(0));
        Twins.refused("Promise 12", "the 7th law, which can't be", -5, early(RefusalsTest::fillLaws), x -> {
            x.end(2);
            return x.law();
        }, x -> x.end(0));
        Twins.refused("Promise 13", "orders() of an empty tape", -6, late(x -> ordersOf(x, "")), LostLanes::orders);
        Twins.refused("Promise 13", "orders() of blanks alone", -6, late(x -> {
            ordersOf(x, "   ");
            Due.write(x, "   ");
        }), LostLanes::orders, x -> x.end(0));
        Twins.refused("Promise 13", "orders() of a fault at 5", -6, late(x -> {
            ordersOf(x, "pass pass");
            Due.write(x, "pass ,");
        }), LostLanes::orders, x -> x.end(0));
    }

    private static int lawOf(LostLanes x, String text) {
        x.end(0);
        return Due.law(x, text);
    }

    private static int ordersOf(LostLanes x, String text) {
        x.end(0);
        return Due.orders(x, text);
    }

    private static void laws() {
        for (int law : new int[] {-2, 2, MIN, MAX}) {
            refused(16, "force(" + law + ") of two", -2, x -> x.force(law));
        }
        Twins.refused("Promise 16", "force(6) of six", -2, early(RefusalsTest::fillLaws), x -> x.force(6));
    }

    private static void steps() {
        int[] noChild = {-1, 3, MIN, MAX};
        for (int child : noChild) {
            refused(17, "wander(" + child + ") of three", -2, x -> x.wander(child));
            refused(18, "cry(" + child + ") of three", -2, x -> x.cry(child));
            refused(19, "lead(" + child + ", 0) of three", -2, x -> x.lead(child, 0));
        }
        Twins.refused("Promise 17", "wander(4) of four", -2, early(RefusalsTest::fillChildren), x -> x.wander(4));
        refused(17, "wander(2) without a lane", -3, x -> x.wander(2));
        Twins.refused("Promise 17", "wander(0) barred from all", -3, late(x -> x.force(lawOf(x, "bars"))), x -> x.wander(0));
        refused(18, "cry(2) without a last lane", -3, x -> x.cry(2));
        for (int corner : new int[] {-1, 8, MIN, MAX}) {
            refused(19, "lead(0, " + corner + ")", -1, x -> x.lead(0, corner));
        }
        refused(19, "lead(2, 7), where it is", -3, x -> x.lead(2, 7));
        Twins.refused("Promise 20", "pass() at 999", -3, early(x -> x.terms(0, 998)), LostLanes::pass);
    }

    private static void stepsOfOrders() {
        String ahead = "pass; wander 0; cry 0; lead 1 to 6; ";
        String[] cannot = {"wander 3", "wander 2", "wander 0 - 1", "cry 3", "cry 2", "lead 0 to 8", "lead 0 to 0 - 1",
            "lead 3 to 0", "lead 2 to 7", "wander 1 / 0", "cry 1 % 0", "lead 1 / 0 to 1", "lead 1 to 1 / 0"};
        for (String order : cannot) {
            Twins.refused("Promise 13", "orders() with " + order, -3, late(x -> {
                ordersOf(x, ahead + "cry 9");
                Due.write(x, ahead + order);
            }), LostLanes::orders, x -> x.end(0));
        }
        Supplier<LostLanes> at991 = () -> rich(x -> x.terms(0, 990), x -> ordersOf(x, "cry 0; pass times 20"));
        Due.due("Promise 13", "orders() to 999", ordersOf(at991.get(), "cry 0; pass times 8"), 9);
        Twins.refused("Promise 13", "orders() beyond 999", -3, at991, x -> ordersOf(x, "cry 0; pass times 9"));
        Twins.refused("Promise 13", "orders() of more steps than are kept", -3, late(x -> {
            ordersOf(x, "pass; wander 9");
            Due.write(x, "pass times 20; wander 9");
        }), LostLanes::orders, x -> x.end(0));
    }

    private static void undos() {
        Twins.refused("Promise 21", "undo() of nothing", -3, late(x -> {
            while (x.count(5) > 0) {
                x.undo();
            }
        }), LostLanes::undo);
        Twins.refused("Promise 21", "undo() behind terms()", -3, late(x -> x.terms(2, 1)), LostLanes::undo);
    }

    private static void heard() {
        for (int name : new int[] {-1, 20, MIN, MAX}) {
            refused(28, "hear(" + name + ")", -1, x -> x.hear(name));
        }
        Twins.refused("Promise 28", "the 7th name", -5, late(RefusalsTest::fillHeard), x -> x.hear(7));
    }

    private static void decades() {
        int[][] numbers = {{-1, 1}, {1000001, 1}, {1, 0}, {1, 61}, {MIN, 1}, {MAX, 1}, {1, MIN}, {1, MAX}};
        for (int[] d : numbers) {
            refused(39, "decades(" + d[0] + ", " + d[1] + ")", -1, x -> x.decades(d[0], d[1]));
        }
        Twins.refused("Promise 39", "decades() without children", -3, Boroughs::square, x -> x.decades(1, 1));
        Twins.refused("Promise 39", "decades() without children, latest ones stay", -3, () -> {
            LostLanes x = Boroughs.square();
            x.image(0);
            x.child(1, 1);
            x.decades(8, 8);
            x.back(0);
            return x;
        }, x -> x.decades(9, 9));
    }

    private static void images() {
        for (int k : new int[] {-1, 2, MIN, MAX}) {
            refused(41, "image(" + k + ")", -1, x -> x.image(k));
            refused(42, "back(" + k + ")", -1, x -> x.back(k));
        }
        refused(42, "back(0), which was not kept", -2, x -> x.back(0));
        Twins.refused("Promise 42", "back(1), which was not kept", -2, () -> {
            LostLanes x = Boroughs.with(Boroughs.square(), 0);
            x.image(0);
            x.wander(0);
            return x;
        }, x -> x.back(1));
    }

    private static void firstInOrder() {
        String order = "Terms I: the first of -1, -2, -3, -5, -6";
        Twins.refused(order, "a lane that can't be, without room", -1, early(RefusalsTest::fillLanes),
                x -> x.lane(3, 3, 1, 0));
        Twins.refused(order, "a child that can't be, without room", -1, early(RefusalsTest::fillChildren),
                x -> x.child(0, 0));
        Twins.refused(order, "a name that can't be, without room", -1, late(RefusalsTest::fillHeard), x -> x.hear(20));
        Twins.refused(order, "no such child to no such corner", -1, RefusalsTest::rich, x -> x.lead(9, 9));
        Twins.refused(order, "decades that can't be, without children", -1, Boroughs::square, x -> x.decades(0, 0));
        Twins.refused(order, "no such image, none kept", -1, Boroughs::square, x -> x.back(2));
        Twins.refused(order, "an empty law without room", -5, early(RefusalsTest::fillLaws), LostLanes::law, x -> x.end(0));
        Twins.refused(order, "no such child at a corner where it could not go", -2, Boroughs::square, x -> x.wander(0));
        Twins.refused(order, "no such child with no last lane", -2, Boroughs::square, x -> x.cry(0));
    }

    private static void nonesOfLanesAndChildren() {
        int[][] at = {{-1, 0}, {7, 0}, {0, -1}, {0, 5}, {MIN, 0}, {MAX, 0}, {0, MIN}, {0, MAX}};
        for (int[] a : at) {
            none(3, "at(" + a[0] + ", " + a[1] + ") of seven", x -> x.at(a[0], a[1]));
        }
        int[][] of = {{-1, 0}, {3, 0}, {0, -1}, {0, 5}, {MIN, 0}, {MAX, 0}, {0, MIN}, {0, MAX}};
        for (int[] o : of) {
            none(5, "of(" + o[0] + ", " + o[1] + ") of three", x -> x.of(o[0], o[1]));
        }
        int[][] asks = {{-1, 0, 0}, {3, 0, 0}, {0, -1, 0}, {0, 7, 0}, {0, 0, -1}, {0, 0, 2}, {MAX, MIN, MAX}};
        for (int[] a : asks) {
            none(6, "asks(" + a[0] + ", " + a[1] + ", " + a[2] + ")", x -> x.asks(a[0], a[1], a[2]));
        }
    }

    private static void nonesOfWays() {
        int[][] where = {{-1, 0}, {3, 0}, {0, -1}, {0, 61}, {MIN, 0}, {0, MAX}};
        for (int[] w : where) {
            none(22, "where(" + w[0] + ", " + w[1] + ")", x -> x.where(w[0], w[1]));
        }
        int[][] far = {{-1, 0}, {8, 0}, {0, -1}, {0, 8}, {0, 7}, {7, 0}, {MIN, MAX}};
        for (int[] f : far) {
            none(23, "far(" + f[0] + ", " + f[1] + ")", x -> x.far(f[0], f[1]));
        }
        int[][] found = {{-1, 0}, {8, 0}, {0, -1}, {0, 3}, {0, 2}, {MAX, MIN}};
        for (int[] f : found) {
            none(24, "found(" + f[0] + ", " + f[1] + ")", x -> x.found(f[0], f[1]));
        }
        for (int what : new int[] {-1, 0, 1, 2, MIN, MAX}) {
            none(25, "post(" + what + "), one child apart", x -> x.post(what));
        }
        int[][] posts = {{-1, 0}, {51, 0}, {0, -1}, {0, 2}, {MIN, 1}, {MAX, 1}};
        for (int[] p : posts) {
            none(26, "posts(" + p[0] + ", " + p[1] + ")", x -> x.posts(p[0], p[1]));
        }
        for (int child : new int[] {-1, 3, MIN, MAX}) {
            none(27, "again(" + child + ")", x -> x.again(child));
        }
        none(35, "round() of lanes that do not hang together", LostLanes::round);
    }

    private static void nonesOfNames() {
        for (int what : new int[] {-1, 3, MIN, MAX}) {
            none(30, "gone(" + what + ")", x -> x.gone(what));
        }
        for (int name : new int[] {-1, 0, 19, 20, MIN, MAX}) {
            none(31, "named(" + name + ")", x -> x.named(name));
        }
        int[][] letters = {{-1, 7, -1}, {8, 7, -1}, {0, -1, -1}, {0, 20, -1}, {0, 0, -1}, {0, 7, -3}, {7, 7, -1},
            {7, 7, -2}, {7, 7, 0}, {0, 7, 8}, {0, 7, MIN}, {0, 7, MAX}};
        for (int[] l : letters) {
            none(32, "letter(" + l[0] + ", " + l[1] + ", " + l[2] + ")", x -> x.letter(l[0], l[1], l[2]));
        }
        for (int what : new int[] {-1, 8, MIN, MAX}) {
            none(33, "apart(" + what + ") of seven", x -> x.apart(what));
        }
    }

    private static void nonesOfTheRest() {
        int[][] few = {{0, 1}, {21, 1}, {1, -1}, {1, 100}, {MIN, 1}, {MAX, 1}, {1, MIN}, {1, MAX}};
        for (int[] f : few) {
            none(37, "few(" + f[0] + ", " + f[1] + ")", x -> x.few(f[0], f[1]));
        }
        int[][] compare = {{-2, 0}, {2, 0}, {0, -1}, {0, 3}, {-1, 3}, {MIN, 0}, {MAX, MAX}};
        for (int[] c : compare) {
            none(38, "compare(" + c[0] + ", " + c[1] + ")", x -> x.compare(c[0], c[1]));
        }
        int[][] drawn = {{-1, 0}, {3, 0}, {-1, 1}, {6, 1}, {0, -1}, {0, 2}, {MIN, 0}, {MAX, 1}};
        for (int[] d : drawn) {
            none(40, "drawn(" + d[0] + ", " + d[1] + ")", x -> x.drawn(d[0], d[1]));
        }
        for (int what : new int[] {-1, 16, MIN, MAX}) {
            none(43, "count(" + what + ")", x -> x.count(what));
        }
    }

    /** Terms III: "On paper, nothing else being done". */
    private static void onPaper() {
        LostLanes like = rich();
        String paper = "Terms III: on paper";
        Twins.untouched(paper, "of(0, 3)", like.of(0, 3), RefusalsTest::rich, x -> x.of(0, 3));
        Twins.untouched(paper, "where(0, 60)", like.where(0, 60), RefusalsTest::rich, x -> x.where(0, 60));
        Twins.untouched(paper, "far(0, 2)", 5, RefusalsTest::rich, x -> x.far(0, 2));
        Twins.untouched(paper, "found(4, 1)", like.found(4, 1), RefusalsTest::rich, x -> x.found(4, 1));
        Twins.untouched(paper, "posts(3, 1)", like.posts(3, 1), RefusalsTest::rich, x -> x.posts(3, 1));
        Twins.untouched(paper, "again(1)", like.again(1), RefusalsTest::rich, x -> x.again(1));
        Twins.untouched(paper, "letter(1, 7, 0)", like.letter(1, 7, 0), RefusalsTest::rich, x -> x.letter(1, 7, 0));
        Twins.untouched(paper, "apart(0)", like.apart(0), RefusalsTest::rich, x -> x.apart(0));
        Twins.untouched(paper, "compare(1, 0)", like.compare(1, 0), RefusalsTest::rich, x -> x.compare(1, 0));
        Twins.untouched(paper, "few(3, 40)", like.few(3, 40), RefusalsTest::rich, x -> x.few(3, 40));
        Twins.untouched(paper, "gone(2)", like.gone(2), RefusalsTest::rich, x -> x.gone(2));
        Supplier<LostLanes> drawn = late(x -> x.decades(77, 60));
        int named = drawn.get().decades(77, 60);
        Twins.untouched("Terms IV: on paper", "decades(77, 60) again", named, drawn, x -> x.decades(77, 60));
    }
}
