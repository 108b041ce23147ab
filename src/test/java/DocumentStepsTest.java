/** The document's Terms III and IV: each sentence as it stands there, and calls that show it. */
public final class DocumentStepsTest {
    private DocumentStepsTest() {
    }

    public static void main(String[] args) throws Exception {
        Document.open("III. To WANDER", "The constants:");
        wander();
        cryAndLead();
        hour();
        onPaper();
        found();
        post();
        posts();
        back();
        gone();
        letter();
        toldApart();
        alikeRoundDead();
        few();
        compared();
        draws();
        decades();
        rows();
        imagesKeep();
        imagesDoNotKeep();
        Document.close();
    }

    private static void says(String words) {
        Document.says(words);
    }

    private static void due(String call, long got, long want) {
        Document.due(call, got, want);
    }

    private static LostLanes alone(int corner, String law) {
        return Boroughs.under(Boroughs.with(Boroughs.square(), corner), law);
    }

    private static LostLanes on(LostLanes x, int corner, String law) {
        return Boroughs.under(Boroughs.with(x, corner), law);
    }

    // Terms III, steps

    private static void wander() {
        Document.shownByNone("III.");
        says("To WANDER: of the LANES at its CORNER from which it is not BARRED, rising,");
        due("at its corner", alone(2, "turns 0").of(0, 4), 1);
        due("at its corner, rising", alone(2, "turns 1").of(0, 4), 2);
        due("not barred", alone(2, "turns 0; bars if lane = 1").of(0, 4), 2);
        due("barred from all", alone(2, "turns 0; bars if lane = 1; bars if lane = 2").of(0, 4), -1);
        due("no lane there", alone(5, "turns 0").of(0, 4), -1);
        says("a CHILD goes along that of the number (0 the first) that is left when what it TURNS to is divided by how many "
                + "there are;");
        int[][] ofThree = {{0, 0}, {1, 1}, {2, 2}, {3, 0}, {98, 2}, {99, 0}};
        for (int[] turn : ofThree) {
            due("turns " + turn[0] + " of three", on(Boroughs.bundle(3), 0, "turns " + turn[0]).of(0, 4), turn[1]);
        }
        due("turns 1 of the two that are left", on(Boroughs.bundle(3), 0, "turns 1; bars if lane = 1").of(0, 4), 2);
        due("turns 2 of the two that are left", on(Boroughs.bundle(3), 0, "turns 2; bars if lane = 0").of(0, 4), 1);
        says("it is at the other end, that LANE is LAST.");
        LostLanes x = alone(0, "turns 1");
        due("wander(0)", x.wander(0), 3);
        due("the corner", x.of(0, 1), 3);
        due("last", x.of(0, 2), 3);
        due("wander(0) from there", x.wander(0), 0);
        due("no lane has a name by that", x.count(2), 0);
        due("no hour passes by that", x.count(13), 0);
    }

    private static void cryAndLead() {
        says("To CRY: the LANE it went LAST has the NAME it SAYS of it.");
        LostLanes x = alone(0, "says 10 + corner");
        x.wander(0);
        due("cry(0)", x.cry(0), 11);
        due("the lane", x.at(0, 4), 11);
        due("no other lane", x.count(2), 1);
        due("the corner stays", x.of(0, 1), 1);
        x.lead(0, 6);
        due("cry(0) elsewhere", x.cry(0), 16);
        due("the same lane, another name", x.at(0, 4), 16);
        says("To LEAD: a CHILD is at another CORNER (LAST stays).");
        due("lead(0, 2)", x.lead(0, 2), 6);
        due("the corner", x.of(0, 1), 2);
        due("last", x.of(0, 2), 0);
        due("the hour", x.count(13), 0);
        due("where it is", x.lead(0, 2), -3);
    }

    private static void hour() {
        says("An HOUR: all CHILDREN who can WANDER do (all asked as it was ahead; rising);");
        LostLanes x = Boroughs.square();
        for (int i = 0; i < 4; i++) {
            x.child(1, i == 3 ? 5 : i);
        }
        Boroughs.under(x, "turns hour; bars if child = 1");
        due("two of four", x.pass(), 2);
        due("child 0, at the hour 0", x.of(0, 1), 1);
        due("child 1, barred", x.of(1, 1), 1);
        due("child 2, at the hour 0, too", x.of(2, 1), 1);
        due("child 3, without a lane", x.of(3, 1), 5);
        due("child 2's last", x.of(2, 2), 1);
        due("no lane has a name by that", x.count(2), 0);
        due("two of four", x.pass(), 2);
        due("child 0, at the hour 1", x.of(0, 1), 2);
        due("child 2, at the hour 1", x.of(2, 1), 2);
        says("it is the next HOUR (at 999 it can't be).");
        due("the hour", x.count(13), 2);
        x.terms(0, 998);
        due("at 998", x.pass(), 2);
        due("the hour", x.count(13), 999);
        int corner = x.of(0, 1);
        due("at 999", x.pass(), -3);
        due("the hour", x.count(13), 999);
        due("nobody wanders", x.of(0, 1), corner);
    }

    // Terms III, on paper

    private static void onPaper() {
        says("(On paper, nothing else being done;");
        LostLanes x = alone(0, "turns hour; says 7");
        x.child(3, 2);
        x.wander(0);
        x.cry(0);
        x.terms(0, 990);
        x.where(0, 60);
        x.found(3, 0);
        x.post(0);
        x.again(0);
        x.compare(-1, 0);
        x.gone(0);
        x.letter(0, 7, 0);
        x.apart(0);
        x.round();
        due("the hour", x.count(13), 990);
        due("the corner", x.of(0, 1), 1);
        due("last", x.of(0, 2), 0);
        due("the other one's corner", x.of(1, 1), 2);
        due("names", x.count(2), 1);
        due("a name", x.at(0, 4), 7);
        LostLanes names = alone(0, "says hour");
        due("it does not cry on the way", names.where(0, 9) < 0 ? -1 : names.count(2), 0);
        says("HOURS go on beyond 999, too:)");
        LostLanes late = on(Boroughs.line(9), 0, "bars if hour < 1000 + 2");
        late.terms(0, 999);
        due("at 1001", late.where(0, 3), 0);
        due("behind 1002", late.where(0, 4), 1);
        due("found there", late.found(1, 0), 4);
        LostLanes gone = on(Boroughs.line(1), 0, "bars if hour = 1000 or hour = 1000 + 1");
        gone.terms(0, 999);
        due("back behind 1002", gone.again(0), 4);
        says("WHERE a CHILD is n HOURS on.");
        LostLanes y = alone(0, "bars if lane = last");
        int[] corners = {0, 1, 2, 3, 0, 1};
        for (int n = 0; n < corners.length; n++) {
            due("where(0, " + n + ")", y.where(0, n), corners[n]);
        }
        LostLanes z = alone(0, "turns hour; bars if hour = 1");
        int[] stays = {0, 1, 1, 0, 3};
        for (int n = 0; n < stays.length; n++) {
            due("where(0, " + n + "), it stays at the hour 1", z.where(0, n), stays[n]);
        }
        for (int n = 0; n < 5; n++) {
            due("by hours that pass", z.of(0, 1), stays[n]);
            z.pass();
        }
    }

    private static void found() {
        says("FAR: from a CORNER to another one as LONG as the LANES of the shortest way together.");
        LostLanes x = Boroughs.square();
        int[][] far = {{0, 2, 5}, {2, 0, 5}, {1, 3, 7}, {0, 3, 5}, {2, 2, 0}, {0, 4, -1}};
        for (int[] f : far) {
            due("far(" + f[0] + ", " + f[1] + ")", x.far(f[0], f[1]), f[2]);
        }
        x.lane(3, 1, 6, 0);
        due("by a shorter lane", x.far(1, 3), 6);
        x.lane(1, 3, 8, 0);
        due("by the shorter of two", x.far(1, 3), 6);
        says("FOUND from a CORNER: the least n 0 .. 60 for which it is n at most FAR from there to where the CHILD is n HOURS "
                + "on.");
        due("there", on(Boroughs.line(4), 0, "bars").found(0, 0), 0);
        due("4 off, it stays", on(Boroughs.line(4), 0, "bars").found(1, 0), 4);
        due("4 off, it comes", Boroughs.with(Boroughs.line(4), 0).found(1, 0), 1);
        due("it goes off", on(Boroughs.line(1, 9), 1, "bars if lane = 0 or hour > 0").found(0, 0), 10);
        due("60 off", on(Boroughs.line(9, 9, 9, 9, 9, 9, 6), 7, "bars").found(0, 0), 60);
        due("61 off", on(Boroughs.line(9, 9, 9, 9, 9, 9, 7), 7, "bars").found(0, 0), -1);
        due("no way", on(Boroughs.line(9), 7, "bars").found(0, 0), -1);
    }

    private static void post() {
        says("POST: the CORNER from which the last one of all CHILDREN is FOUND soonest (each by itself);");
        LostLanes x = on(Boroughs.line(3, 3, 3, 3), 0, "bars");
        due("one child", x.post(0), 0);
        x.child(1, 4);
        due("two, 12 apart", x.post(0), 2);
        due("in so many hours", x.post(1), 6);
        x.child(1, 4);
        due("three, two of them alike", x.post(0), 2);
        due("not by the hours of all together", x.post(1), 6);
        LostLanes moves = on(Boroughs.line(9, 9, 9), 0, "bars if child = 0; bars if lane = last");
        moves.child(1, 3);
        due("one comes to the other", moves.post(1), 3);
        due("whose corner it is", moves.post(0), 0);
        says("the lowest.");
        LostLanes two = on(Boroughs.line(5), 1, "bars");
        two.child(1, 0);
        due("0 and 1 alike", two.post(0), 0);
        due("5 hours", two.post(1), 5);
    }

    private static void posts() {
        says("POSTS for d: the fewest CORNERS from one of which at least each CORNER at which a LANE ends is d at most FAR;");
        LostLanes x = Boroughs.line(2, 2, 2, 2);
        int[][] how = {{0, 5}, {1, 5}, {2, 2}, {3, 2}, {4, 1}, {8, 1}, {50, 1}};
        for (int[] h : how) {
            due("how many for " + h[0], x.posts(h[0], 0), h[1]);
        }
        due("the middle for 4", x.posts(4, 1), 4);
        due("corners without a lane are not asked for", Boroughs.line(1).posts(1, 0), 1);
        due("no lanes", new LostLanes().posts(1, 0), 0);
        LostLanes apart = Boroughs.line(1);
        apart.lane(6, 7, 1, 0);
        due("two that do not hang together", apart.posts(50, 1), 1 + 64);
        says("the lowest as bits.");
        due("0 and 3 ahead of 1 and 3, of 1 and 4", x.posts(2, 1), 1 + 8);
        due("0 and 2 ahead of 1 and 2, of 0 and 3", Boroughs.line(1, 1, 1).posts(1, 1), 1 + 4);
        due("0 ahead of 1", Boroughs.line(3).posts(3, 1), 1);
        due("fewest ahead of lowest", Boroughs.line(1, 1).posts(1, 1), 2);
    }

    private static void back() {
        says("BACK: the least n 1 .. 60 behind which a CHILD is at the CORNER where it is now.");
        due("it stays", alone(0, "bars").again(0), 1);
        due("there and back", alone(0, "turns 0").again(0), 2);
        due("round a square", alone(0, "bars if lane = last").again(0), 4);
        due("in 60", on(Boroughs.line(1), 0, "bars if hour > 0 and hour < 59").again(0), 60);
        due("in 61", on(Boroughs.line(1), 0, "bars if hour > 0 and hour < 60").again(0), -1);
    }

    // Terms III, names

    private static void hear(LostLanes x, int... names) {
        x.forget();
        for (int name : names) {
            x.hear(name);
        }
    }

    private static void gone() {
        LostLanes x = Boroughs.plated(new int[] {0, 1, 1, 3}, new int[] {1, 2, 1, 3}, new int[] {2, 3, 1, 4},
                new int[] {5, 6, 1, 3}, new int[] {3, 4, 1, -1});
        says("GONE: ways by LANES, one behind the other, each from the CORNER to which the one ahead came,");
        hear(x, 3, 4);
        due("3, 4: from 1 over 2 to 3 alone", x.gone(0), 1);
        due("it begins at 1", x.gone(1), 2);
        due("it ends at 3", x.gone(2), 8);
        says("the NAMES of which are just those HEARD, in that row");
        hear(x, 4, 3);
        due("4, 3: from 3 over 2 to 1 alone", x.gone(0), 1);
        due("it begins at 3", x.gone(1), 8);
        due("it ends at 1", x.gone(2), 2);
        hear(x, 3, 4, 5);
        due("a name that no lane has", x.gone(0), 0);
        due("nothing begins", x.gone(1), 0);
        says("(a LANE may be gone along again):");
        hear(x, 4, 4, 4, 4, 4, 4);
        due("there and back", x.gone(0), 2);
        due("from 2 and 3", x.gone(1), 4 + 8);
        says("how many ways, whatever the CORNER they begin at");
        hear(x, 3);
        due("three lanes, both ways", x.gone(0), 6);
        hear(x, 3, 3);
        due("2 each from 0, 1, 2 and 1 each from 5, 6", x.gone(0), 8);
        says("(none HEARD: 8, one at each CORNER);");
        hear(x);
        due("none heard", x.gone(0), 8);
        due("where they begin", x.gone(1), 255);
        due("where they end", x.gone(2), 255);
        due("without lanes", new LostLanes().gone(0), 8);
        says("CORNERS at which they begin, at which they end.");
        hear(x, 3, 3, 4);
        due("3, 3, 4: from 0 and 2", x.gone(1), 1 + 4);
        due("to 3", x.gone(2), 8);
        due("two ways", x.gone(0), 2);
    }

    private static void letter() {
        says("A LETTER from a CORNER to a NAME: the shortest way to an end of any LANE that has it;");
        LostLanes x = Boroughs.plated(new int[] {0, 1, 9, -1}, new int[] {0, 2, 1, -1}, new int[] {2, 1, 2, -1},
                new int[] {1, 3, 9, 7}, new int[] {4, 5, 1, 7}, new int[] {5, 0, 4, -1});
        due("how long", x.letter(0, 7, -1), 3);
        due("the lane", x.letter(0, 7, -2), 3);
        due("over 2", x.letter(0, 7, 0), 2);
        due("to 1", x.letter(0, 7, 1), 1);
        due("no more", x.letter(0, 7, 2), -1);
        due("there", x.letter(4, 7, -1), 0);
        says("then the lowest such LANE of those with an end as near;");
        LostLanes alike = Boroughs.plated(new int[] {0, 2, 3, -1}, new int[] {0, 1, 3, -1}, new int[] {4, 2, 1, 7},
                new int[] {1, 3, 1, 7}, new int[] {5, 6, 1, 7});
        due("3 to both", alike.letter(0, 7, -2), 2);
        due("to its end", alike.letter(0, 7, 0), 2);
        due("both at one corner", Boroughs.bundle(2).letter(0, 0, -2), -1);
        due("two at one corner", Boroughs.plated(new int[] {0, 1, 1, 7}, new int[] {0, 2, 1, 7}).letter(0, 7, -2), 0);
        says("the way to it as a row of CORNERS, the first by CORNERS one behind the other,");
        LostLanes ways = Boroughs.plated(new int[] {0, 2, 1, -1}, new int[] {2, 3, 1, -1}, new int[] {0, 3, 2, -1},
                new int[] {0, 1, 1, -1}, new int[] {1, 3, 1, -1}, new int[] {3, 6, 1, 9});
        int[] row = {1, 3, -1};
        for (int i = 0; i < row.length; i++) {
            due("over 1, not 2, not at once: corner " + i, ways.letter(0, 9, i), row[i]);
        }
        says("to the nearer end (the lower one of alike ones).");
        due("alike", Boroughs.plated(new int[] {0, 5, 2, -1}, new int[] {0, 4, 2, -1}, new int[] {5, 4, 9, 0})
                .letter(0, 0, 0), 4);
        due("the higher one nearer", Boroughs.plated(new int[] {0, 5, 1, -1}, new int[] {0, 4, 2, -1},
                new int[] {4, 5, 9, 0}).letter(0, 0, 0), 5);
    }

    private static void row(LostLanes x, int... names) {
        for (int lane = 0; lane < names.length; lane++) {
            due("lane " + lane, x.apart(1 + lane), names[lane]);
        }
    }

    private static void toldApart() {
        says("TOLD APART: the fewest NAMES so that no two LANES at one CORNER have the same;");
        LostLanes three = Boroughs.line(1, 1);
        three.lane(2, 0, 1, 0);
        due("none", new LostLanes().apart(0), 0);
        due("one", Boroughs.line(1).apart(0), 1);
        due("a line", Boroughs.line(1, 1, 1).apart(0), 2);
        due("a round of four", Boroughs.square().apart(0), 2);
        due("a round of three", three.apart(0), 3);
        due("five between the same corners", Boroughs.bundle(5).apart(0), 5);
        says("the first row of them by LANES, 0 on.");
        row(Boroughs.square(), 0, 1, 0, 1);
        row(three, 0, 1, 2);
        LostLanes later = new LostLanes();
        later.lane(0, 1, 1, 0);
        later.lane(3, 4, 1, 0);
        later.lane(1, 2, 1, 0);
        later.lane(2, 3, 1, 0);
        // With 0 for lane 1 the lanes behind it would need a third name.
        row(later, 0, 1, 1, 0);
    }

    private static void alikeRoundDead() {
        says("ALIKE: twos of LANES with the same NAME that have a CORNER in common.");
        LostLanes x = Boroughs.plated(new int[] {0, 1, 1, 3}, new int[] {1, 2, 1, 3}, new int[] {2, 3, 1, 3},
                new int[] {0, 1, 1, 3}, new int[] {1, 2, 1, 4}, new int[] {1, 5, 1, -1}, new int[] {1, 6, 1, -1});
        // 0 and 1, 0 and 3, 1 and 2, 1 and 3.
        due("alike()", x.alike(), 4);
        due("apart from one another", Boroughs.plated(new int[] {0, 1, 1, 3}, new int[] {2, 3, 1, 3}).alike(), 0);
        says("A ROUND: how LONG the shortest way is that goes along each LANE at least once and ends where it began;");
        due("a square", Boroughs.square().round(), 14);
        due("there and back", Boroughs.line(4, 5).round(), 18);
        LostLanes across = Boroughs.square();
        across.lane(1, 3, 1, 0);
        due("a square with a short lane across, twice along it", across.round(), 16);
        LostLanes longer = Boroughs.square();
        longer.lane(1, 3, 9, 0);
        due("a square with a long lane across, back by 0", longer.round(), 14 + 9 + 7);
        says("none, if LANES do not hang together (no LANES: 0).");
        LostLanes apart = Boroughs.line(1);
        apart.lane(2, 3, 1, 0);
        due("two apart", apart.round(), -1);
        apart.lane(1, 2, 1, 0);
        due("together", apart.round(), 6);
        due("no lanes", new LostLanes().round(), 0);
        says("DEAD ends: CORNERS at which just one LANE ends.");
        due("a line of 0 .. 3", Boroughs.line(1, 1, 1).dead(), 1 + 8);
        due("two between the same corners", Boroughs.bundle(2).dead(), 0);
        due("a square", Boroughs.square().dead(), 0);
        due("no lanes", new LostLanes().dead(), 0);
        due("two apart, joined", apart.dead(), 1 + 8);
    }

    private static void few() {
        says("FEW: the chance, of 1,000,000,000,000 parts, that of n children, each of whom cries in CRIES of ten, fewer than "
                + "k do:");
        LostLanes x = new LostLanes();
        due("of none", x.few(1, 0), 1000000000000L);
        due("fewer than 1 of 1", x.few(1, 1), 900000000000L);
        x.terms(1, 3);
        due("fewer than 1 of 2", x.few(1, 2), 490000000000L);
        due("fewer than 2 of 2", x.few(2, 2), 910000000000L);
        due("fewer than 3 of 2", x.few(3, 2), 1000000000000L);
        x.terms(1, 10);
        due("fewer than 2 of 2, all cry", x.few(2, 2), 0);
        x.terms(1, 0);
        due("fewer than 1 of 99, none cries", x.few(1, 99), 1000000000000L);
        says("child by child, by how many did, each part times the rest by ten and times CRIES by ten (one more), both cut;");
        x.terms(1, 5);
        long[] parts = new long[100];
        parts[0] = 1000000000000L;
        for (int child = 0; child < 30; child++) {
            for (int did = child + 1; did > 0; did--) {
                parts[did] = parts[did] * 5 / 10 + parts[did - 1] * 5 / 10;
            }
            parts[0] = parts[0] * 5 / 10;
        }
        due("1 by 2 to the 30th, cut", x.few(1, 30), 931);
        due("fewer than 1 of 30", x.few(1, 30), parts[0]);
        due("fewer than 2 of 30", x.few(2, 30), parts[0] + parts[1]);
        says("of those below k all together.");
        long together = 0;
        for (int k = 1; k <= 20; k++) {
            together += parts[k - 1];
            due("fewer than " + k + " of 30", x.few(k, 30), together);
        }
    }

    private static void compared() {
        says("COMPARED: the CORNER to which a CHILD would WANDER now by a LAW in place of that in FORCE");
        LostLanes x = alone(0, "turns 1");
        x.child(1, 2);
        Due.law(x, "turns hour");
        Due.law(x, "bars");
        due("by law 0, in force", x.compare(0, 0), 3);
        due("by law 1, at the hour 0", x.compare(1, 0), 1);
        x.terms(0, 1);
        due("by law 1, at the hour 1", x.compare(1, 0), 3);
        due("another child", x.compare(0, 1), 3);
        due("law 0 stays in force", x.count(12), 0);
        says("(NONE: none; where it is, if it can't).");
        due("by none", x.compare(-1, 0), 1);
        due("by law 2, barred from all", x.compare(2, 0), 0);
        due("another child, barred from all", x.compare(2, 1), 2);
        x.lead(1, 7);
        due("no lane there", x.compare(-1, 1), 7);
    }

    // Terms IV

    private static int draw(int s) {
        return (int) ((s * 1103L + 12345) % 1000003);
    }

    /** A seed of which the first three draws tell just these. */
    private static int seedOf(int kids, int child, int corner, int what) {
        for (int seed = 0; seed <= 1000000; seed++) {
            int one = draw(seed);
            int two = draw(one);
            if (one % kids == child && two % 8 == corner && draw(two) % 4 == what) {
                return seed;
            }
        }
        return -1;
    }

    /** A seed of which the first three draws tell of child 0 of two and that, the next three that child 1 is led to 4. */
    private static int seedOf(int first) {
        for (int seed = 0; seed <= 1000000; seed++) {
            int one = draw(seed);
            int three = draw(draw(one));
            int four = draw(three);
            int five = draw(four);
            if (one % 2 == 0 && three % 4 == first && four % 2 == 1 && five % 8 == 4 && draw(five) % 4 == 2) {
                return seed;
            }
        }
        return -1;
    }

    /** Two children in a square; the second one went along lane 1, which has no name yet; nobody can wander. */
    private static LostLanes drawnOf() {
        LostLanes x = Boroughs.with(Boroughs.square(), 0);
        x.child(1, 2);
        x.wander(1);
        return Boroughs.under(x, "says 12; bars");
    }

    private static void draws() {
        Document.shownByNone("IV.");
        says("DECADES with a SEED, n 1 .. 60, on paper:");
        Document.within(1, 60, n -> drawnOf().decades(1, n) < 0 ? -1 : 1, n -> 1, -1);
        LostLanes x = drawnOf();
        x.decades(1, 60);
        due("the hour", x.count(13), 0);
        due("the corners", 10 * x.of(0, 1) + x.of(1, 1), 1);
        due("names", x.count(2), 0);
        due("what can be undone", x.count(5), 1);
        says("s is the SEED (0 .. 1,000,000);");
        Document.within(0, 1000000, s -> drawnOf().decades(s, 1) < 0 ? -1 : 1, s -> 1, -1);
        says("a DRAW of m: s becomes (s times 1103 and 12345) modulo 1,000,003, it is s modulo m.");
        // 5, 17860, 711868, 200394: the child 0 of two, the corner 4, then 2: it is led.
        due("decades(5, 1)", x.decades(5, 1), 0);
        due("led to 4", x.drawn(0, 0), 4);
        due("the other one is not", x.drawn(1, 0), 1);
    }

    private static void decades() {
        says("Each time (at HOUR 999 it ends)");
        int led = seedOf(2, 0, 6, 2);
        LostLanes late = drawnOf();
        late.terms(0, 999);
        late.decades(led, 60);
        due("at 999 nobody is led", late.drawn(0, 0), 0);
        late.terms(0, 998);
        late.decades(led, 60);
        due("at 998 one is, then it ends", late.drawn(0, 0), 6);
        due("the other one stays", late.drawn(1, 0), 1);
        says("DRAWS of CHILDREN, of 8, of 4, whatever comes of them:");
        for (int first = 0; first < 4; first++) {
            // Of the first time nothing comes but by 2: child 0 went along no lane.
            int seed = seedOf(first);
            LostLanes twice = drawnOf();
            due("decades() of two times", twice.decades(seed, 2), 0);
            due("child 0 by the first time", twice.drawn(0, 0), first == 2 ? draw(draw(seed)) % 8 : 0);
            due("child 1 by the second time", twice.drawn(1, 0), 4);
        }
        LostLanes x = drawnOf();
        says("at 0, 1 (the last DRAW) that CHILD CRIES,");
        for (int what = 0; what < 2; what++) {
            due("decades() with " + what, x.decades(seedOf(2, 1, 3, what), 1), 1);
            due("the name of its lane", x.drawn(1, 1), 12);
            due("it is not led", x.drawn(1, 0), 1);
        }
        says("at 2 it is LED to that CORNER (the second DRAW),");
        for (int corner = 0; corner < 8; corner++) {
            due("decades() to " + corner, x.decades(seedOf(2, 1, corner, 2), 1), 0);
            due("the corner", x.drawn(1, 0), corner);
            due("the other one's", x.drawn(0, 0), 0);
        }
        says("each if it can be,");
        due("one without a last lane cries", x.decades(seedOf(2, 0, 3, 0), 1), 0);
        due("one is led to where it is", x.decades(seedOf(2, 1, 1, 2), 1), 0);
        due("the corner", x.drawn(1, 0), 1);
        says("at 3 nothing;");
        due("decades() with 3", x.decades(seedOf(2, 1, 5, 3), 1), 0);
        due("the corner", x.drawn(1, 0), 1);
        says("then the HOUR passes.");
        LostLanes walk = Boroughs.with(Boroughs.square(), 0);
        Boroughs.under(walk, "turns hour");
        walk.decades(seedOf(1, 0, 0, 3), 1);
        due("by the hour 0 to 1", walk.drawn(0, 0), 1);
        walk.terms(0, 1);
        walk.decades(seedOf(1, 0, 0, 3), 1);
        due("by the hour 1 to 3", walk.drawn(0, 0), 3);
        walk.decades(seedOf(1, 0, 2, 2), 1);
        due("led to 2, then by the hour 1 to 3", walk.drawn(0, 0), 3);
        walk.terms(0, 0);
        walk.decades(seedOf(1, 0, 2, 2), 1);
        due("led to 2, then by the hour 0 to 1", walk.drawn(0, 0), 1);
    }

    private static void rows() {
        says("A ROW: the TAPE's bytes by fours: two CORNERS, LONG, a SIGHT: a LANE;");
        LostLanes x = new LostLanes();
        Due.writeBytes(x, 7, 0, 9, 4, 1, 2, 3, 0);
        due("row()", x.row(), 2);
        int[][] lanes = {{7, 0, 9, 4, -1}, {1, 2, 3, 0, -1}};
        for (int lane = 0; lane < 2; lane++) {
            for (int what = 0; what < 5; what++) {
                due("at(" + lane + ", " + what + ")", x.at(lane, what), lanes[lane][what]);
            }
        }
        says("one that can't be,");
        int[][] cannot = {{8, 0, 1, 0}, {0, 8, 1, 0}, {3, 3, 1, 0}, {0, 1, 0, 0}, {0, 1, 10, 0}, {0, 1, 1, 5}, {255, 1, 1, 0}};
        for (int[] bytes : cannot) {
            Due.writeBytes(x, bytes);
            due("row()", x.row(), 0);
            due("gravel()", x.gravel(), 1);
        }
        says("one within which the TAPE ends,");
        for (int bytes = 1; bytes < 4; bytes++) {
            Due.writeBytes(x, java.util.Arrays.copyOf(new int[] {0, 1, 1, 0}, bytes));
            due("row() of bytes: " + bytes, x.row(), 0);
            due("gravel()", x.gravel(), 1);
        }
        says("one for which there is no room is GRAVEL: nothing.");
        for (int i = 0; i < 7; i++) {
            x.lane(0, 1, 1, 0);
        }
        Due.writeBytes(x, 4, 5, 6, 1, 4, 5, 6, 2, 4, 5, 6, 3);
        due("row() with room for one", x.row(), 1);
        due("gravel()", x.gravel(), 2);
        due("the one", x.at(9, 3), 1);
        due("lanes", x.count(0), 10);
    }

    private static void imagesKeep() {
        says("IMAGES 0, 1 keep all but");
        Document.within(0, 1, k -> new LostLanes().image(k), k -> 0, -1);
        LostLanes x = alone(0, "turns 1; says 8");
        x.terms(0, 10);
        x.terms(1, 2);
        x.terms(2, 3);
        x.hear(8);
        x.wander(0);
        x.cry(0);
        x.image(0);
        x.lane(5, 6, 1, 1);
        x.child(2, 5);
        x.wander(0);
        x.lead(0, 2);
        x.wander(0);
        x.cry(0);
        x.hear(9);
        Due.law(x, "turns 5");
        x.force(1);
        x.terms(0, 500);
        x.terms(1, 9);
        x.terms(2, 9);
        x.back(0);
        int[] counts = {4, 1, 1, 1, 1};
        for (int what = 0; what < counts.length; what++) {
            due("count(" + what + ")", x.count(what), counts[what]);
        }
        due("the law in force", x.count(12), 0);
        due("HOUR", x.count(13), 10);
        due("CRIES", x.count(14), 2);
        due("MOOD", x.count(15), 3);
        due("the corner", x.of(0, 1), 3);
        due("last", x.of(0, 2), 3);
        due("the name", x.at(3, 4), 8);
        due("what was heard", x.gone(1), 1 + 8);
        LostLanes six = Boroughs.plated(new int[] {0, 1, 1, 3}, new int[] {1, 2, 1, 4});
        hear(six, 3, 3, 3, 3, 3, 4);
        six.image(1);
        hear(six, 4, 4, 4, 4, 4, 4);
        six.back(1);
        due("six names heard", six.count(3), 6);
        due("all six of them: from 0", six.gone(1), 1);
        due("all six of them: to 2", six.gone(2), 4);
        LostLanes y = new LostLanes();
        y.image(0);
        y.lane(0, 1, 2, 3);
        y.child(4, 5);
        y.hear(6);
        y.image(1);
        y.back(0);
        due("an empty borough", y.count(0) + y.count(1) + y.count(3), 0);
        y.lane(6, 7, 8, 4);
        y.child(9, 3);
        y.hear(1);
        y.back(1);
        for (int what = 0; what < 4; what++) {
            due("at(0, " + what + "), another one in its place", y.at(0, what), what);
        }
        due("of(0, 0), another one in its place", y.of(0, 0), 4);
        due("of(0, 1), another one in its place", y.of(0, 1), 5);
        Boroughs.under(y, "says 6");
        y.lead(0, 0);
        y.wander(0);
        y.cry(0);
        due("what was heard, another one in its place", y.gone(0), 2);
    }

    private static void imagesDoNotKeep() {
        LostLanes x = alone(0, "turns 1; says 8");
        x.image(0);
        x.wander(0);
        Due.orders(x, "pass; wander 5");
        Due.law(x, "turns ,");
        Due.writeBytes(x, 9);
        x.row();
        x.wander(0);
        x.decades(seedOf(1, 0, 5, 2), 1);
        Due.write(x, "abcdefg");
        int undoable = x.count(5);
        x.back(0);
        says("the TAPE,");
        due("count(6)", x.count(6), 7);
        says("FAULT,");
        due("fault()", x.fault(), 6);
        says("GRAVEL,");
        due("gravel()", x.gravel(), 1);
        says("where ORDERS stopped,");
        due("stopped()", x.stopped(), 1);
        says("what can be undone (nothing, behind back()),");
        due("count(5) ahead of back()", undoable, 1);
        due("count(5)", x.count(5), 0);
        due("undo()", x.undo(), -3);
        x.wander(0);
        x.image(1);
        due("image() leaves it", x.count(5), 1);
        says("the latest DECADES;");
        due("the corner of the child", x.drawn(0, 0), 5);
        says("BACK to one all that it keeps is as it was then (IMAGES stay).");
        for (int times = 0; times < 3; times++) {
            due("back(0)", x.back(0), 0);
            due("the corner by 0", x.of(0, 1), 0);
            x.lead(0, 7);
            due("back(1)", x.back(1), 0);
            due("the corner by 1", x.of(0, 1), 3);
            x.lead(0, 7);
        }
    }
}
