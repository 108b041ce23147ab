/** The document from its constants to its last word: each sentence as it stands there, and calls that show it. */
public final class DocumentPromisesTest {
    private DocumentPromisesTest() {
    }

    public static void main(String[] args) throws Exception {
        Document.open("The constants:", "");
        newObject();
        lanesAndChildren();
        asksAndTerms();
        tape();
        rows();
        laws();
        orders();
        faultAndStopped();
        force();
        wanderAndCry();
        leadAndPass();
        undo();
        whereToFound();
        postToAgain();
        heard();
        namedAndLetter();
        apartToDead();
        fewAndCompare();
        decades();
        images();
        count();
        status();
        notPromised();
        Document.close();
    }

    private static void promise(int number, String name, String signature) {
        Document.shownByNone("## Promise " + number + ": " + name + " `" + signature + "`:");
    }

    private static void says(String words) {
        Document.says(words);
    }

    private static void due(String call, long got, long want) {
        Document.due(call, got, want);
    }

    private static LostLanes alone(int corner) {
        return Boroughs.with(Boroughs.square(), corner);
    }

    private static void newObject() {
        says("The constants: `NONE = -1`: There is none.");
        due("NONE", LostLanes.NONE, -1);
        due("the law in force", new LostLanes().count(12), LostLanes.NONE);
        promise(1, "A new object", "LostLanes()");
        says("A borough without lanes.");
        LostLanes x = new LostLanes();
        int[] counts = {0, 0, 0, 0, 0, 0, 0, 0, 0, 0, 0, 0, -1, 0, 1, 0};
        for (int what = 0; what < counts.length; what++) {
            due("count(" + what + ")", x.count(what), counts[what]);
        }
        due("at(0, 0)", x.at(0, 0), -1);
        due("dead()", x.dead(), 0);
        due("the first lane", x.lane(0, 1, 1, 0), 0);
        due("another object has none", new LostLanes().count(0), 0);
    }

    private static void lanesAndChildren() {
        promise(2, "lane", "int lane(int one, int other, int length, int sight)");
        says("A LANE: its number.");
        LostLanes x = new LostLanes();
        for (int i = 0; i < 10; i++) {
            due("lane", x.lane(5, 2, 8, 3), i);
        }
        says("-1 (the same CORNER twice, too);");
        int[][] cannot = {{-1, 2, 8, 3}, {8, 2, 8, 3}, {5, -1, 8, 3}, {5, 8, 8, 3}, {5, 2, 0, 3}, {5, 2, 10, 3}, {5, 2, 8, -1},
            {5, 2, 8, 5}, {5, 5, 8, 3}};
        for (int[] l : cannot) {
            due("lane that can't be", new LostLanes().lane(l[0], l[1], l[2], l[3]), -1);
        }
        says("-5.");
        due("the 11th", x.lane(5, 2, 8, 3), -5);
        promise(3, "at", "int at(int lane, int what)");
        says("Of a LANE one CORNER, as told (what 0),");
        due("at(9, 0)", x.at(9, 0), 5);
        says("the other (1),");
        due("at(9, 1)", x.at(9, 1), 2);
        says("LONG (2),");
        due("at(9, 2)", x.at(9, 2), 8);
        says("SIGHT (3),");
        due("at(9, 3)", x.at(9, 3), 3);
        says("the NAME (4; NONE).");
        due("none", x.at(0, 4), -1);
        Boroughs.under(Boroughs.with(x, 5), "says 0");
        x.wander(0);
        x.cry(0);
        due("the name 0", x.at(0, 4), 0);
        due("none", x.at(1, 4), -1);
        says("NONE.");
        Document.within(0, 4, w -> x.at(0, w), w -> w == 0 ? 5 : 0, -1);
        Document.within(0, 9, l -> x.at(l, 0), l -> 5, -1);
        promise(4, "child", "int child(int age, int corner)");
        says("A CHILD: its number.");
        for (int i = 1; i < 4; i++) {
            due("child", x.child(i, i), i);
        }
        says("-1;");
        int[][] kids = {{0, 0}, {10, 0}, {1, -1}, {1, 8}};
        for (int[] c : kids) {
            due("child that can't be", new LostLanes().child(c[0], c[1]), -1);
        }
        says("-5.");
        due("the 5th", x.child(1, 1), -5);
    }

    private static void asksAndTerms() {
        LostLanes x = alone(0);
        x.child(9, 7);
        promise(5, "of", "int of(int child, int what)");
        says("Of a CHILD AGE (what 0),");
        due("of(0, 0)", x.of(0, 0), 5);
        due("of(1, 0)", x.of(1, 0), 9);
        says("the CORNER (1),");
        due("of(1, 1)", x.of(1, 1), 7);
        says("the LANE it went LAST (2; NONE),");
        due("none", x.of(0, 2), -1);
        x.lead(0, 2);
        x.wander(0);
        due("of(0, 2)", x.of(0, 2), 1);
        says("to what it TURNS (3),");
        due("without a law", x.of(0, 3), 0);
        Boroughs.under(x, "turns 70 + age; bars if age = 9; says 4 * lane + age");
        due("of(0, 3)", x.of(0, 3), 75);
        due("of(1, 3)", x.of(1, 3), 79);
        says("along which LANE it would WANDER (4; NONE: it can't).");
        due("of(0, 4)", x.of(0, 4), 1);
        due("it is still where it was", x.of(0, 1), 1);
        due("no lane there", x.of(1, 4), -1);
        x.lead(1, 0);
        due("barred from all", x.of(1, 4), -1);
        says("NONE.");
        Document.within(0, 1, c -> x.of(c, 0), c -> c == 0 ? 5 : 9, -1);
        Document.within(0, 4, w -> x.of(0, w), w -> w == 0 ? 5 : 1, -1);
        promise(6, "asks", "int asks(int child, int lane, int what)");
        says("Of a CHILD and a LANE (wherever it is) what it SAYS (what 0),");
        for (int lane = 0; lane < 4; lane++) {
            due("of lane " + lane, x.asks(0, lane, 0), 4 * lane + 5);
            due("of lane " + lane + ", the other one", x.asks(1, lane, 0), Math.min(19, 4 * lane + 9));
        }
        due("no lane has a name by that", x.count(2), 0);
        says("whether BARRED (1: 1, 0).");
        due("no", x.asks(0, 2, 1), 0);
        due("yes", x.asks(1, 2, 1), 1);
        says("NONE.");
        Document.within(0, 1, c -> x.asks(c, 0, 0), c -> c == 0 ? 5 : 9, -1);
        Document.within(0, 3, l -> x.asks(1, l, 1), l -> 1, -1);
        Document.within(0, 1, w -> x.asks(1, 1, w), w -> w == 0 ? 13 : 1, -1);
        promise(7, "terms", "int terms(int what, int value)");
        says("A TERM: what it was.");
        int[][] terms = {{0, 999, 0}, {0, 5, 999}, {1, 10, 1}, {1, 0, 10}, {2, 9, 0}, {2, 3, 9}, {0, 0, 5}, {1, 1, 0}};
        for (int[] t : terms) {
            due("terms(" + t[0] + ", " + t[1] + ")", x.terms(t[0], t[1]), t[2]);
            due("as it is then", x.count(13 + t[0]), t[1]);
        }
        says("-1.");
        int[][] cannot = {{-1, 0}, {3, 0}, {0, -1}, {0, 1000}, {1, -1}, {1, 11}, {2, -1}, {2, 10}};
        for (int[] t : cannot) {
            due("terms(" + t[0] + ", " + t[1] + ")", x.terms(t[0], t[1]), -1);
        }
    }

    private static void tape() {
        promise(8, "feed", "int feed(int a, int b, int c, int d, int e)");
        says("Twenty bytes come behind the TAPE, four of each number, the highest first:");
        LostLanes x = new LostLanes();
        x.feed(0x00010203, 0x07060504, 0x80010100, 0x01020100, 0x06070900);
        x.end(20);
        due("row()", x.row(), 4);
        due("gravel(), as 128 is no corner", x.gravel(), 1);
        int[][] lanes = {{0, 1, 2, 3}, {7, 6, 5, 4}, {1, 2, 1, 0}, {6, 7, 9, 0}};
        for (int lane = 0; lane < 4; lane++) {
            for (int what = 0; what < 4; what++) {
                due("at(" + lane + ", " + what + ")", x.at(lane, what), lanes[lane][what]);
            }
        }
        says("how many it has.");
        for (int i = 1; i <= 20; i++) {
            due("feed", x.feed(0, 0, 0, 0, 0), 20 * i);
        }
        says("NONE, if there would be more than 400.");
        due("behind 400", x.feed(0, 0, 0, 0, 0), -1);
        x.end(381);
        due("behind 381", x.feed(0, 0, 0, 0, 0), -1);
        due("nothing came", x.count(6), 381);
        x.end(380);
        due("behind 380", x.feed(0, 0, 0, 0, 0), 400);
        promise(9, "end", "int end(int n)");
        says("The TAPE has its first n bytes alone: n.");
        due("end(399)", x.end(399), 399);
        due("bytes", x.count(6), 399);
        due("end(0)", x.end(0), 0);
        due("bytes", x.count(6), 0);
        x.child(1, 0);
        Due.write(x, "turns 33");
        x.end(7);
        x.force(x.law());
        due("the first 7 of \"turns 33\"", x.of(0, 3), 3);
        says("NONE, if it has not so many, or n is below 0.");
        Due.write(x, "abc");
        due("end(4) of 3", x.end(4), -1);
        due("end(-1) of 3", x.end(-1), -1);
        due("bytes", x.count(6), 3);
        due("end(3) of 3", x.end(3), 3);
    }

    private static void rows() {
        promise(10, "row", "int row()");
        LostLanes x = new LostLanes();
        says("A ROW, the TAPE is empty then: how many LANES came.");
        Due.writeBytes(x, 0, 1, 1, 0, 9, 9, 9, 9, 1, 2, 1, 0, 1, 2);
        due("row()", x.row(), 2);
        due("bytes", x.count(6), 0);
        due("lanes", x.count(0), 2);
        says("-6 the TAPE is empty.");
        due("row()", x.row(), -6);
        Due.writeBytes(x, 9);
        due("one byte is enough", x.row(), 0);
        promise(11, "gravel", "int gravel()");
        says("How many times there was GRAVEL in the latest row() that was not REFUSED (0 ahead of any).");
        due("in one byte", x.gravel(), 1);
        Due.writeBytes(x, 9, 9, 9, 9, 9, 9, 9, 9, 9);
        x.row();
        due("in nine bytes", x.gravel(), 3);
        x.row();
        due("behind one that was refused", x.gravel(), 3);
        Due.writeBytes(x, 0, 1, 1, 0);
        x.row();
        due("none", x.gravel(), 0);
        due("ahead of any", new LostLanes().gravel(), 0);
        LostLanes y = new LostLanes();
        y.row();
        due("ahead of any that was not refused", y.gravel(), 0);
    }

    private static void laws() {
        promise(12, "law", "int law()");
        says("The TAPE, which is empty then, becomes a LAW: its number.");
        LostLanes x = alone(0);
        x.wander(0);
        for (int i = 0; i < 6; i++) {
            due("law " + i, Due.law(x, "turns " + i), i);
            due("bytes", x.count(6), 0);
            x.force(i);
            due("what it says", x.of(0, 3), i);
        }
        says("-5 (ahead of reading it; the TAPE is empty then, too);");
        due("a 7th", Due.law(x, "turns 1"), -5);
        due("bytes", x.count(6), 0);
        due("a 7th that can't be read", Due.law(x, "turns"), -5);
        due("it was not read", x.fault(), -1);
        due("bytes", x.count(6), 0);
        due("laws", x.count(4), 6);
        says("-6 (blanks alone: FAULT at the end).");
        LostLanes y = alone(0);
        y.wander(0);
        due("no law", Due.law(y, "turn 1"), -6);
        due("bytes", y.count(6), 0);
        due("blanks alone", Due.law(y, "     "), -6);
        due("fault at the end", y.fault(), 5);
        due("nothing at all", y.law(), -6);
        due("fault at the end", y.fault(), 0);
        due("laws", y.count(4), 0);
        says("It leaves what can be undone.");
        due("behind laws", x.count(5), 1);
        due("behind refused ones", y.count(5), 1);
        due("undo()", x.undo(), 0);
    }

    private static void orders() {
        promise(13, "orders", "int orders()");
        says("ORDERS, the TAPE is empty then: how many were run.");
        LostLanes x = alone(0);
        due("orders()", Due.orders(x, "wander 0 times 3; cry 0; pass if 1=2"), 4);
        due("bytes", x.count(6), 0);
        due("the corner", x.of(0, 1), 1);
        due("none", Due.orders(x, "pass if 1=2"), 0);
        says("-3 one can't be;");
        due("a child that is not", Due.orders(x, "pass; wander 1"), -3);
        due("bytes", x.count(6), 0);
        due("the hour", x.count(13), 0);
        due("a corner that is not", Due.orders(x, "pass; lead 0 to 8"), -3);
        says("-6 (as for law()).");
        due("no orders", Due.orders(x, "pass; pas"), -6);
        due("bytes", x.count(6), 0);
        due("nothing is run", x.count(13), 0);
        due("blanks alone", Due.orders(x, "     "), -6);
        due("fault at the end", x.fault(), 5);
        due("nothing at all", x.orders(), -6);
        due("fault at the end", x.fault(), 0);
    }

    private static void faultAndStopped() {
        promise(14, "fault", "int fault()");
        says("FAULT of the latest law(), orders() that read a TEXT: its place;");
        LostLanes x = new LostLanes();
        due("ahead of any", x.fault(), -1);
        Due.law(x, "bars x");
        due("of a law", x.fault(), 5);
        Due.orders(x, "pass if");
        due("of orders", x.fault(), 7);
        x.pass();
        x.row();
        due("behind other calls", x.fault(), 7);
        for (int i = 0; i < 6; i++) {
            Due.law(x, "bars");
        }
        Due.orders(x, "pas");
        Due.law(x, "bars bars");
        due("behind a law that was not read", x.fault(), 0);
        says("NONE without.");
        Due.orders(x, "pass");
        due("of orders without", x.fault(), -1);
        Due.orders(x, "pas");
        Due.orders(x, "wander 0");
        due("of orders that can be read, but not run", x.fault(), -1);
        LostLanes y = new LostLanes();
        Due.law(y, "bar");
        Due.law(y, "bars");
        due("of a law without", y.fault(), -1);
        promise(15, "stopped", "int stopped()");
        says("Which CLAUSE of the latest orders() could not be.");
        Due.orders(y, "wander 0");
        due("the first", y.stopped(), 0);
        Due.orders(y, "pass; wander 0 if 1=2; pass; cry 0");
        due("the fourth", y.stopped(), 3);
        Due.law(y, "bars");
        y.pass();
        due("behind other calls", y.stopped(), 3);
        says("NONE.");
        Due.orders(y, "pass");
        due("all could be", y.stopped(), -1);
        due("ahead of any", new LostLanes().stopped(), -1);
    }

    private static void force() {
        promise(16, "force", "int force(int law)");
        says("A LAW is in FORCE (NONE: none): which was.");
        LostLanes x = alone(0);
        x.wander(0);
        Due.law(x, "turns 11");
        Due.law(x, "turns 22");
        due("force(1)", x.force(1), -1);
        due("turns by law 1", x.of(0, 3), 22);
        due("force(0)", x.force(0), 1);
        due("turns by law 0", x.of(0, 3), 11);
        due("force(NONE)", x.force(-1), 0);
        due("turns by none", x.of(0, 3), 0);
        due("force(NONE) again", x.force(-1), -1);
        due("status()", x.status(), 0);
        says("-2.");
        Document.within(-1, 1, l -> {
            x.force(0);
            return x.force(l);
        }, l -> 0, -2);
        says("It leaves what can be undone.");
        due("count(5)", x.count(5), 1);
        due("undo()", x.undo(), 0);
        due("the law in force stays", x.count(12), 0);
    }

    private static void wanderAndCry() {
        promise(17, "wander", "int wander(int child)");
        says("To WANDER: the CORNER then.");
        LostLanes x = alone(0);
        x.child(1, 2);
        x.child(1, 5);
        due("wander(0)", x.wander(0), 1);
        due("the corner", x.of(0, 1), 1);
        due("wander(1)", x.wander(1), 1);
        due("wander(0) back", x.wander(0), 0);
        says("-2;");
        due("wander(3)", x.wander(3), -2);
        due("wander(-1)", x.wander(-1), -2);
        says("-3 it can't (no LANE there, BARRED from all).");
        due("no lane there", x.wander(2), -3);
        Boroughs.under(x, "bars if lane < 4");
        due("barred from all", x.wander(1), -3);
        due("the corner", x.of(1, 1), 1);
        promise(18, "cry", "int cry(int child)");
        says("To CRY: the NAME the LANE has then.");
        due("cry(1)", x.cry(1), 2);
        due("at(1, 4)", x.at(1, 4), 2);
        Boroughs.under(x, "says 0");
        due("another name", x.cry(1), 0);
        due("at(1, 4)", x.at(1, 4), 0);
        says("-2;");
        due("cry(3)", x.cry(3), -2);
        due("cry(-1)", x.cry(-1), -2);
        says("-3 it went along none.");
        due("cry(2)", x.cry(2), -3);
    }

    private static void leadAndPass() {
        promise(19, "lead", "int lead(int child, int corner)");
        says("To LEAD: the CORNER where it was.");
        LostLanes x = alone(0);
        x.child(1, 5);
        due("lead(0, 7)", x.lead(0, 7), 0);
        due("lead(0, 2)", x.lead(0, 2), 7);
        due("the corner", x.of(0, 1), 2);
        says("-1;");
        due("lead(0, 8)", x.lead(0, 8), -1);
        due("lead(0, -1)", x.lead(0, -1), -1);
        due("lead(2, 8)", x.lead(2, 8), -1);
        says("-2;");
        due("lead(2, 1)", x.lead(2, 1), -2);
        due("lead(-1, 1)", x.lead(-1, 1), -2);
        says("-3 it is there.");
        due("lead(0, 2)", x.lead(0, 2), -3);
        promise(20, "pass", "int pass()");
        says("An HOUR: how many WANDERED.");
        due("one of two", x.pass(), 1);
        due("its corner", x.of(0, 1), 1);
        due("the hour", x.count(13), 1);
        x.lead(1, 0);
        due("two of two", x.pass(), 2);
        due("none of none", new LostLanes().pass(), 0);
        says("-3.");
        x.terms(0, 999);
        due("at 999", x.pass(), -3);
    }

    private static void undo() {
        promise(21, "undo", "int undo()");
        says("The latest wander(), cry(), lead(), pass()");
        LostLanes x = alone(0);
        x.wander(0);
        x.cry(0);
        x.lead(0, 5);
        x.pass();
        for (int kind = 3; kind >= 0; kind--) {
            due("undo()", x.undo(), kind);
        }
        says("(by ORDERS, too;");
        Due.orders(x, "wander 0; cry 0; lead 0 to 5; pass");
        for (int kind = 3; kind >= 0; kind--) {
            due("undo()", x.undo(), kind);
        }
        due("the corner", x.of(0, 1), 0);
        says("16 are kept)");
        for (int i = 1; i <= 17; i++) {
            x.lead(0, i % 8);
        }
        due("count(5)", x.count(5), 16);
        for (int i = 16; i >= 1; i--) {
            due("undo()", x.undo(), 2);
            due("the corner", x.of(0, 1), i % 8);
        }
        due("the 17th", x.undo(), -3);
        says("is undone (CORNERS, LAST, NAMES, HOUR are as they were): 0 .. 3.");
        LostLanes y = alone(0);
        y.child(1, 2);
        y.wander(0);
        y.cry(0);
        y.pass();
        y.cry(0);
        y.lead(0, 6);
        int[] kinds = {2, 1, 3, 1, 0};
        int[] corners = {0, 0, 1, 1, 0};
        int[] lasts = {0, 0, 0, 0, -1};
        int[] others = {1, 1, 2, 2, 2};
        int[] names = {1, 1, 1, -1, -1};
        int[] hours = {1, 1, 0, 0, 0};
        for (int i = 0; i < kinds.length; i++) {
            due("undo()", y.undo(), kinds[i]);
            due("the corner", y.of(0, 1), corners[i]);
            due("last", y.of(0, 2), lasts[i]);
            due("the other one's corner", y.of(1, 1), others[i]);
            due("the other one's last", y.of(1, 2), i < 2 ? 1 : -1);
            due("the name", y.at(0, 4), names[i]);
            due("the hour", y.count(13), hours[i]);
        }
        says("-3 there is none");
        due("undo()", y.undo(), -3);
        says("(nothing that was ahead of a lane(), child(), terms(), row(), back() that was not REFUSED can be undone).");
        y.image(0);
        for (int call = 0; call < 5; call++) {
            y.wander(1);
            y.wander(1);
            int told = refusedCall(y, call);
            due("call " + call + ", refused by " + told, y.count(5), 2);
            told = call(y, call);
            due("call " + call + ", told " + told, y.count(5), 0);
            due("undo()", y.undo(), -3);
        }
    }

    private static int refusedCall(LostLanes x, int call) {
        return call == 0 ? x.lane(0, 0, 1, 0) : call == 1 ? x.child(0, 0) : call == 2 ? x.terms(0, -1)
                : call == 3 ? x.row() : x.back(1);
    }

    private static int call(LostLanes x, int call) {
        Due.writeBytes(x, 9);
        int told = call == 0 ? x.lane(0, 1, 1, 0) : call == 1 ? x.child(1, 0) : call == 2 ? x.terms(0, 0)
                : call == 3 ? x.row() : x.back(0);
        x.end(0);
        return told;
    }

    private static void whereToFound() {
        promise(22, "where", "int where(int child, int n)");
        says("WHERE a CHILD is n HOURS 0 .. 60 on.");
        LostLanes x = alone(0);
        x.child(1, 5);
        for (int n = 0; n <= 60; n++) {
            due("where(0, " + n + ")", x.where(0, n), n % 2);
        }
        due("where(1, 60)", x.where(1, 60), 5);
        says("NONE.");
        Document.within(0, 60, n -> x.where(1, n), n -> 5, -1);
        Document.within(0, 1, c -> x.where(c, 0), c -> 5 * c, -1);
        promise(23, "far", "int far(int from, int to)");
        says("FAR.");
        due("far(0, 2)", x.far(0, 2), 5);
        due("far(3, 3)", x.far(3, 3), 0);
        due("far(7, 7)", x.far(7, 7), 0);
        says("NONE (no way; no such CORNERS).");
        due("no way", x.far(0, 5), -1);
        Document.within(0, 7, c -> x.far(c, c), c -> 0, -1);
        Document.within(0, 3, c -> x.far(c, 1), c -> c == 0 ? 2 : 7, -1);
        Document.within(0, 3, c -> x.far(1, c), c -> c == 0 ? 2 : 7, -1);
        promise(24, "found", "int found(int corner, int child)");
        says("FOUND from a CORNER.");
        due("found(0, 0)", x.found(0, 0), 0);
        due("found(1, 0), as it comes there", x.found(1, 0), 1);
        due("found(2, 0)", x.found(2, 0), 3);
        due("found(5, 1)", x.found(5, 1), 0);
        says("NONE (not in 60; no such CHILD, CORNER).");
        due("not in 60", x.found(0, 1), -1);
        Document.within(0, 1, c -> x.found(5, c), c -> c == 0 ? -1 : 0, -1);
        // At 5 hours the child is at 1, 7 off; at 6 it is at 0, 5 off.
        Document.within(0, 3, c -> x.found(c, 0), c -> c == 0 ? 0 : 6, -1);
    }

    private static void postToAgain() {
        promise(25, "post", "int post(int what)");
        LostLanes x = Boroughs.under(Boroughs.with(Boroughs.line(4, 4, 4, 4), 0), "bars");
        x.child(1, 4);
        says("POST: the CORNER (what 0),");
        due("post(0)", x.post(0), 2);
        says("in how many HOURS all are FOUND (1).");
        due("post(1)", x.post(1), 8);
        due("of one child", alone(3).post(1), 0);
        says("NONE (no CHILDREN; from none all are).");
        due("no children", Boroughs.square().post(0), -1);
        due("no children", Boroughs.square().post(1), -1);
        Document.within(0, 1, w -> x.post(w), w -> w == 0 ? 2 : 8, -1);
        x.child(1, 7);
        due("from none", x.post(0), -1);
        due("from none", x.post(1), -1);
        x.lead(2, 3);
        due("from one again", x.post(0), 2);
        due("from one again", x.post(1), 8);
        x.lead(2, 7);
        promise(26, "posts", "int posts(int d, int what)");
        says("POSTS for d 0 .. 50: how many (what 0; no LANES: 0),");
        due("posts(4, 0)", x.posts(4, 0), 2);
        due("posts(8, 0)", x.posts(8, 0), 1);
        due("no lanes", new LostLanes().posts(4, 0), 0);
        says("which, as bits (1).");
        due("posts(4, 1)", x.posts(4, 1), 1 + 8);
        due("posts(8, 1)", x.posts(8, 1), 4);
        due("no lanes", new LostLanes().posts(4, 1), 0);
        says("NONE.");
        Document.within(0, 50, d -> x.posts(d, 0), d -> d == 0 ? 5 : 1, -1);
        Document.within(0, 1, w -> x.posts(50, w), w -> 1, -1);
        promise(27, "again", "int again(int child)");
        says("BACK at its CORNER.");
        due("it stays", x.again(0), 1);
        x.force(-1);
        due("there and back", x.again(0), 2);
        says("NONE (not in 60; no such CHILD).");
        due("not in 60", Boroughs.under(Boroughs.with(Boroughs.line(1), 0), "bars if hour > 0").again(0), -1);
        Document.within(0, 2, c -> x.again(c), c -> c == 0 ? 2 : 1, -1);
    }

    private static void heard() {
        promise(28, "hear", "int hear(int name)");
        LostLanes x = Boroughs.plated(new int[] {0, 1, 1, 19}, new int[] {1, 2, 1, 0}, new int[] {2, 3, 1, 19});
        x.pass();
        says("HEARD: a NAME 0 .. 19 more: how many there are.");
        due("hear(19)", x.hear(19), 1);
        due("hear(0)", x.hear(0), 2);
        for (int i = 3; i <= 6; i++) {
            due("hear(0)", x.hear(0), i);
        }
        due("count(3)", x.count(3), 6);
        says("-1;");
        due("hear(20)", x.hear(20), -1);
        due("hear(-1)", x.hear(-1), -1);
        says("-5.");
        due("the 7th", x.hear(0), -5);
        says("It leaves what can be undone.");
        due("count(5)", x.count(5), 1);
        due("undo()", x.undo(), 3);
        due("what was heard stays", x.count(3), 6);
        promise(29, "forget", "int forget()");
        says("HEARD is nothing then: how many there were.");
        due("forget()", x.forget(), 6);
        due("count(3)", x.count(3), 0);
        due("gone(0)", x.gone(0), 8);
        due("forget() again", x.forget(), 0);
        promise(30, "gone", "int gone(int what)");
        x.hear(19);
        x.hear(0);
        says("GONE: how many ways (what 0),");
        due("gone(0)", x.gone(0), 2);
        says("CORNERS at which they begin (1),");
        due("gone(1)", x.gone(1), 1 + 8);
        says("end (2), as bits.");
        due("gone(2)", x.gone(2), 2 + 4);
        says("NONE for others.");
        Document.within(0, 2, w -> x.gone(w), w -> w == 0 ? 2 : 6, -1);
    }

    private static void namedAndLetter() {
        LostLanes x = Boroughs.plated(new int[] {0, 1, 2, 3}, new int[] {1, 2, 3, 19}, new int[] {2, 3, 1, 0},
                new int[] {3, 4, 1, 19}, new int[] {5, 6, 1, 7});
        promise(31, "named", "int named(int name)");
        says("The lowest LANE that has a NAME.");
        due("named(19)", x.named(19), 1);
        due("named(0)", x.named(0), 2);
        due("named(7)", x.named(7), 4);
        due("named(3)", x.named(3), 0);
        says("NONE.");
        due("no lane", x.named(1), -1);
        Document.within(0, 19, n -> x.named(n), n -> n == 0 ? 2 : 1, -1);
        promise(32, "letter", "int letter(int from, int name, int i)");
        says("A LETTER: how LONG the way is (i NONE),");
        due("letter(0, 0, -1)", x.letter(0, 0, -1), 5);
        due("letter(0, 19, -1)", x.letter(0, 19, -1), 2);
        due("letter(4, 19, -1)", x.letter(4, 19, -1), 0);
        says("the LANE (i -2),");
        due("letter(0, 0, -2)", x.letter(0, 0, -2), 2);
        due("letter(0, 19, -2)", x.letter(0, 19, -2), 1);
        due("letter(4, 19, -2)", x.letter(4, 19, -2), 3);
        says("the i-th CORNER it comes to (i 0 on;");
        due("letter(0, 0, 0)", x.letter(0, 0, 0), 1);
        due("letter(0, 0, 1)", x.letter(0, 0, 1), 2);
        due("letter(0, 0, 2)", x.letter(0, 0, 2), -1);
        says("none, if it is there).");
        due("letter(2, 0, 0)", x.letter(2, 0, 0), -1);
        due("letter(2, 0, -2)", x.letter(2, 0, -2), 2);
        says("NONE (no LANE that can be come to has it; others).");
        for (int i = -2; i < 2; i++) {
            due("a name that no lane has, i " + i, x.letter(0, 1, i), -1);
            due("a lane that can't be come to, i " + i, x.letter(0, 7, i), -1);
        }
        due("letter(0, 0, -3)", x.letter(0, 0, -3), -1);
        Document.within(0, 4, c -> x.letter(c, 0, -1), c -> c == 0 ? 5 : 1, -1);
        Document.within(0, 7, c -> x.letter(c, 20, -2), c -> -1, -1);
        Document.within(0, 19, n -> x.letter(0, n, -2), n -> n == 0 ? 2 : 1, -1);
    }

    private static void apartToDead() {
        LostLanes x = Boroughs.plated(new int[] {0, 1, 2, 4}, new int[] {1, 2, 3, 4}, new int[] {1, 3, 4, 4},
                new int[] {3, 4, 5, 4});
        promise(33, "apart", "int apart(int what)");
        says("TOLD APART: how many NAMES (what 0),");
        due("apart(0)", x.apart(0), 3);
        says("that of LANE l (1 + l).");
        int[] names = {0, 1, 2, 0};
        for (int lane = 0; lane < 4; lane++) {
            due("apart(" + (1 + lane) + ")", x.apart(1 + lane), names[lane]);
        }
        says("NONE.");
        Document.within(0, 4, w -> x.apart(w), w -> w == 0 ? 3 : 0, -1);
        due("no lanes", new LostLanes().apart(1), -1);
        promise(34, "alike", "int alike()");
        says("ALIKE: how many twos.");
        due("alike()", x.alike(), 4);
        due("without names", Boroughs.square().alike(), 0);
        promise(35, "round", "int round()");
        says("A ROUND.");
        due("round()", x.round(), 28);
        due("a square", Boroughs.square().round(), 14);
        says("NONE.");
        LostLanes apart = Boroughs.square();
        apart.lane(4, 5, 1, 0);
        due("they do not hang together", apart.round(), -1);
        promise(36, "dead", "int dead()");
        says("DEAD ends, as bits.");
        due("dead()", x.dead(), 1 + 4 + 16);
        due("a square and a lane", apart.dead(), 16 + 32);
    }

    private static void fewAndCompare() {
        promise(37, "few", "long few(int k, int n)");
        says("FEW, k 1 .. 20, n 0 .. 99.");
        LostLanes x = alone(0);
        x.terms(1, 2);
        due("few(1, 1)", x.few(1, 1), 800000000000L);
        due("few(1, 0)", x.few(1, 0), 1000000000000L);
        due("few(20, 0)", x.few(20, 0), 1000000000000L);
        x.terms(1, 10);
        due("few(19, 19)", x.few(19, 19), 0);
        due("few(20, 99)", x.few(20, 99), 0);
        due("few(20, 19)", x.few(20, 19), 1000000000000L);
        says("NONE.");
        long[][] cannot = {{0, 1}, {21, 1}, {1, -1}, {1, 100}, {-1, 1}};
        for (long[] c : cannot) {
            due("few(" + c[0] + ", " + c[1] + ")", x.few((int) c[0], (int) c[1]), -1);
        }
        promise(38, "compare", "int compare(int law, int child)");
        says("COMPARED.");
        Due.law(x, "turns 1");
        Due.law(x, "bars");
        due("by law 0", x.compare(0, 0), 3);
        due("by law 1", x.compare(1, 0), 0);
        due("by none", x.compare(-1, 0), 1);
        says("NONE (no such LAW, CHILD).");
        due("compare(2, 0)", x.compare(2, 0), -1);
        due("compare(-2, 0)", x.compare(-2, 0), -1);
        due("compare(0, 1)", x.compare(0, 1), -1);
        due("compare(0, -1)", x.compare(0, -1), -1);
        due("compare(-1, 1)", x.compare(-1, 1), -1);
    }

    private static void decades() {
        promise(39, "decades", "int decades(int seed, int n)");
        says("DECADES, kept as the latest: how many LANES have NAMES behind them.");
        // The seed 5: child 0 of one is led to 4, where it can't wander.
        LostLanes x = Boroughs.plated(new int[] {0, 1, 1, 19}, new int[] {1, 2, 1, 0}, new int[] {2, 3, 1, -1});
        due("decades(5, 1)", x.decades(5, 1), 2);
        due("the borough's own names", x.count(2), 2);
        due("the corner behind them", x.drawn(0, 0), 4);
        x.lead(0, 3);
        x.terms(0, 999);
        due("at 999", x.decades(5, 1), 2);
        due("the latest", x.drawn(0, 0), 3);
        says("-1;");
        int[][] cannot = {{-1, 1}, {1000001, 1}, {5, 0}, {5, 61}};
        for (int[] c : cannot) {
            due("decades(" + c[0] + ", " + c[1] + ")", x.decades(c[0], c[1]), -1);
        }
        says("-3 there are no CHILDREN.");
        due("no children", Boroughs.square().decades(5, 1), -3);
        due("refused ones are not kept", x.drawn(0, 0), 3);
        promise(40, "drawn", "int drawn(int k, int what)");
        says("Behind the latest DECADES the CORNER of CHILD k (what 0),");
        x.lead(0, 6);
        due("drawn(0, 0)", x.drawn(0, 0), 3);
        says("the NAME of LANE k (1; NONE).");
        due("drawn(0, 1)", x.drawn(0, 1), 19);
        due("drawn(1, 1)", x.drawn(1, 1), 0);
        due("drawn(2, 1)", x.drawn(2, 1), -1);
        says("NONE.");
        Document.within(0, 0, k -> x.drawn(k, 0), k -> 3, -1);
        Document.within(0, 1, k -> x.drawn(k, 1), k -> k == 0 ? 19 : 0, -1);
        Document.within(0, 1, w -> x.drawn(0, w), w -> w == 0 ? 3 : 19, -1);
        due("ahead of any", alone(0).drawn(0, 0), -1);
    }

    private static void images() {
        promise(41, "image", "int image(int k)");
        says("IMAGE k is kept: 0;");
        LostLanes x = alone(0);
        due("back(1) ahead", x.back(1), -2);
        due("image(1)", x.image(1), 0);
        due("back(1)", x.back(1), 0);
        due("back(0)", x.back(0), -2);
        due("image(0)", x.image(0), 0);
        says("-1.");
        Document.within(0, 1, k -> new LostLanes().image(k), k -> 0, -1);
        promise(42, "back", "int back(int k)");
        says("BACK to IMAGE k: 0.");
        x.lead(0, 5);
        x.image(1);
        x.lead(0, 6);
        due("back(0)", x.back(0), 0);
        due("the corner by 0", x.of(0, 1), 0);
        due("back(1)", x.back(1), 0);
        due("the corner by 1", x.of(0, 1), 5);
        says("-1;");
        due("back(2)", x.back(2), -1);
        due("back(-1)", x.back(-1), -1);
        says("-2 it was not kept.");
        due("back(0)", new LostLanes().back(0), -2);
        due("back(1)", new LostLanes().back(1), -2);
    }

    private static void count() {
        promise(43, "count", "int count(int what)");
        LostLanes x = Boroughs.plated(new int[] {0, 1, 1, 0}, new int[] {1, 2, 1, 19}, new int[] {2, 3, 1, -1});
        x.child(1, 1);
        for (int i = 0; i < 3; i++) {
            x.hear(1);
            Due.law(x, "bars if 1 = 2");
        }
        x.force(3);
        x.terms(0, 7);
        x.terms(1, 8);
        x.terms(2, 9);
        for (int i = 0; i < 5; i++) {
            x.wander(1);
        }
        Due.write(x, "abcdef");
        says("0 LANES,");
        due("count(0)", x.count(0), 3);
        says("1 CHILDREN,");
        due("count(1)", x.count(1), 2);
        says("2 how many LANES have NAMES,");
        due("count(2)", x.count(2), 2);
        says("3 HEARD,");
        due("count(3)", x.count(3), 3);
        says("4 LAWS,");
        due("count(4)", x.count(4), 4);
        says("5 how many can be undone,");
        due("count(5)", x.count(5), 5);
        says("6 bytes of the TAPE,");
        due("count(6)", x.count(6), 6);
        says("7 .. 11 how many calls were REFUSED by -1, -2, -3, -5, -6");
        LostLanes full = Boroughs.bundle(10);
        for (int i = 0; i < 5; i++) {
            int times = 2 * i + 1;
            for (int n = 0; n < times; n++) {
                int told = i == 0 ? full.hear(20) : i == 1 ? full.wander(0) : i == 2 ? full.undo()
                        : i == 3 ? full.lane(0, 1, 1, 0) : full.row();
                due("refused", told, i < 3 ? -1 - i : -2 - i);
            }
        }
        for (int i = 0; i < 5; i++) {
            due("count(" + (7 + i) + ")", full.count(7 + i), 2 * i + 1);
        }
        says("(IMAGES do not keep that),");
        full.image(0);
        full.hear(20);
        full.back(0);
        due("count(7)", full.count(7), 2);
        says("12 the LAW in FORCE,");
        due("count(12)", x.count(12), 3);
        due("none", full.count(12), -1);
        says("13 .. 15 TERMS 0 .. 2.");
        for (int what = 13; what < 16; what++) {
            due("count(" + what + ")", x.count(what), what - 6);
        }
        says("NONE for others.");
        Document.within(0, 15, w -> x.count(w), w -> w == 0 ? 3 : 9, -1);
    }

    private static void status() {
        promise(44, "status", "int status()");
        says("What the latest call of lane, child, terms, row, law, orders, force, wander, cry, lead, pass, undo, hear, "
                + "decades, image, back was REFUSED by;");
        LostLanes x = Boroughs.with(Boroughs.line(1), 5);
        x.terms(0, 999);
        for (int call = 0; call < 16; call++) {
            int told = refusedOne(x, call);
            due("call " + call + ", which was refused", told < 0 ? 1 : 0, 1);
            due("status()", x.status(), told);
            x.end(99);
            x.at(99, 0);
            due("status() behind calls that tell NONE", x.status(), told);
        }
        says("0 if it was not,");
        for (int call = 0; call < 16; call++) {
            x.hear(20);
            int told = oneThatCanBe(x, call);
            due("status() behind call " + call + ", which told " + told, x.status(), 0);
        }
        says("or ahead of any.");
        due("status()", new LostLanes().status(), 0);
    }

    /** Each is refused otherwise than the one ahead of it, but for two. */
    private static int refusedOne(LostLanes x, int call) {
        switch (call) {
            case 0:
                return x.lane(0, 0, 1, 0);
            case 1:
                return x.orders();
            case 2:
                return x.child(0, 0);
            case 3:
                return x.row();
            case 4:
                return x.terms(0, -1);
            case 5:
                return x.law();
            case 6:
                return x.force(0);
            case 7:
                return x.wander(0);
            case 8:
                return x.cry(1);
            case 9:
                return x.lead(0, 5);
            case 10:
                return x.hear(20);
            case 11:
                return x.pass();
            case 12:
                return x.decades(-1, 1);
            case 13:
                return x.undo();
            case 14:
                return x.image(2);
            default:
                return x.back(0);
        }
    }

    private static int oneThatCanBe(LostLanes x, int call) {
        switch (call) {
            case 0:
                return x.lane(0, 1, 1, 0);
            case 1:
                return x.child(1, 0);
            case 2:
                return x.terms(0, 0);
            case 3:
                Due.writeBytes(x, 9);
                return x.row();
            case 4:
                Due.write(x, "bars if 1 = 2");
                return x.law();
            case 5:
                Due.write(x, "pass");
                return x.orders();
            case 6:
                return x.force(0);
            case 7:
                return x.wander(1);
            case 8:
                return x.cry(1);
            case 9:
                return x.lead(1, 7);
            case 10:
                return x.pass();
            case 11:
                return x.undo();
            case 12:
                return x.hear(19);
            case 13:
                return x.decades(5, 1);
            case 14:
                return x.image(0);
            default:
                return x.back(0);
        }
    }

    private static void notPromised() {
        Document.shownByNone("## Not promised How the state is held inside the object is free, as are the speed of each call, "
                + "the text of toString and the behaviour of equals and hashCode. Use of one object from several threads at "
                + "once is not promised to be safe. Nothing is promised beyond the answers and state changes described above, "
                + "and nothing about an object after its 512th call.");
    }
}
