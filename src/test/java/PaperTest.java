/** The boundaries that the document names under "Terms", III and IV: steps, ways, names, chances, decades, rows, images. */
public final class PaperTest {
    private PaperTest() {
    }

    public static void main(String[] args) {
        wander();
        cryAndLead();
        hour();
        where();
        far();
        found();
        post();
        posts();
        back();
        gone();
        letter();
        letterOfAlikeOnes();
        toldApart();
        alike();
        round();
        dead();
        few();
        compared();
        draws();
        decadesAtTheLastHour();
        rows();
        rowsOfBytes();
        images();
        imagesDoNotKeep();
        Due.close();
    }

    private static void due(String sentence, String call, long got, long want) {
        Due.due(sentence, call, got, want);
    }

    private static LostLanes led(LostLanes x, int corner, String law) {
        return Boroughs.under(Boroughs.with(x, corner), law);
    }

    // Terms III, steps

    private static void wander() {
        String t = "Terms III: the number (0 the first) that is left when what it TURNS to is divided by how many";
        int[][] ofTen = {{0, 0}, {1, 1}, {9, 9}, {10, 0}, {11, 1}, {98, 8}, {99, 9}};
        for (int[] turn : ofTen) {
            due(t, "turns " + turn[0] + " of ten", led(Boroughs.bundle(10), 0, "turns " + turn[0]).of(0, 4), turn[1]);
            due(t, "turns " + turn[0] + " of one", led(Boroughs.bundle(1), 0, "turns " + turn[0]).of(0, 4), 0);
        }
        String b = "Terms III: of the LANES at its CORNER from which it is not BARRED, rising";
        due(b, "turns 0", led(Boroughs.bundle(3), 0, "turns 0; bars if lane = 0").of(0, 4), 1);
        due(b, "turns 1", led(Boroughs.bundle(3), 0, "turns 1; bars if lane = 1").of(0, 4), 2);
        due(b, "turns 2", led(Boroughs.bundle(3), 0, "turns 2; bars if lane = 1").of(0, 4), 0);
        due(b, "but the last", led(Boroughs.bundle(10), 0, "turns 99; bars if lane < 9").of(0, 4), 9);
        due(b, "but the first", led(Boroughs.bundle(10), 0, "turns 99; bars if lane > 0").of(0, 4), 0);
        due(b, "all", led(Boroughs.bundle(10), 0, "turns 99; bars if lane < 10").of(0, 4), -1);
        due(b, "lanes elsewhere", led(Boroughs.line(1, 1, 1), 3, "turns 1").of(0, 4), 2);
        due(b, "no lane there", led(Boroughs.line(1, 1, 1), 4, "turns 1").of(0, 4), -1);
        LostLanes x = led(Boroughs.line(1, 1), 2, "turns 99");
        String o = "Terms III: it is at the other end, that LANE is LAST";
        due(o, "wander(0)", x.wander(0), 1);
        due(o, "of(0, 1)", x.of(0, 1), 1);
        due(o, "of(0, 2)", x.of(0, 2), 1);
        due(o, "wander(0)", x.wander(0), 2);
    }

    private static void cryAndLead() {
        String t = "Terms III: to CRY: the LANE it went LAST has the NAME it SAYS of it";
        LostLanes x = led(Boroughs.square(), 0, "says corner + 10");
        due(t, "cry(0) without a last lane", x.cry(0), -3);
        x.wander(0);
        due(t, "cry(0)", x.cry(0), 11);
        due(t, "at(0, 4)", x.at(0, 4), 11);
        due(t, "other lanes", x.count(2), 1);
        String l = "Terms III: to LEAD: a CHILD is at another CORNER (LAST stays)";
        due(l, "lead(0, 1), where it is", x.lead(0, 1), -3);
        due(l, "lead(0, 7)", x.lead(0, 7), 1);
        due(l, "of(0, 1)", x.of(0, 1), 7);
        due(l, "of(0, 2)", x.of(0, 2), 0);
        due(l, "lead(0, 7) again", x.lead(0, 7), -3);
        due(t, "cry(0) far from it", x.cry(0), 17);
        due(t, "at(0, 4) anew", x.at(0, 4), 17);
        due(t, "names", x.count(2), 1);
    }

    private static void hour() {
        String t = "Terms III: an HOUR: all CHILDREN who can WANDER do; it is the next HOUR (at 999 it can't be)";
        LostLanes x = new LostLanes();
        due(t, "pass() without children", x.pass(), 0);
        due(t, "the hour", x.count(13), 1);
        x.terms(0, 998);
        due(t, "pass() at 998", x.pass(), 0);
        due(t, "the hour", x.count(13), 999);
        due(t, "pass() at 999", x.pass(), -3);
        due(t, "the hour", x.count(13), 999);
        due(t, "undo()", x.undo(), 3);
        due(t, "the hour", x.count(13), 998);
        LostLanes y = Boroughs.square();
        for (int i = 0; i < 4; i++) {
            y.child(i + 1, i);
        }
        Boroughs.under(y, "turns hour; bars if child = 3 or hour = 2");
        due(t, "three of four", y.pass(), 3);
        due(t, "child 2, asked at the hour 0", y.of(2, 1), 1);
        due(t, "child 3 stays", y.of(3, 1), 3);
        due(t, "child 3 has no last", y.of(3, 2), -1);
        due(t, "three of four", y.pass(), 3);
        due(t, "none of four", y.pass(), 0);
        due(t, "the hour", y.count(13), 3);
        y.force(-1);
        due(t, "four of four", y.pass(), 4);
    }

    // Terms III, on paper

    private static void where() {
        String t = "Terms III: WHERE a CHILD is n HOURS on";
        LostLanes x = led(Boroughs.line(1), 0, "bars if hour < 59");
        due(t, "where(0, 0)", x.where(0, 0), 0);
        due(t, "where(0, 59)", x.where(0, 59), 0);
        due(t, "where(0, 60)", x.where(0, 60), 1);
        due(t, "where(0, 61)", x.where(0, 61), -1);
        due(t, "where(0, -1)", x.where(0, -1), -1);
        LostLanes kept = led(Boroughs.line(1, 1), 0, "bars if hour = 1 or last = lane");
        due(t + ": it stays for an HOUR, LAST stays, too", "where(0, 2)", kept.where(0, 2), 1);
        due(t + ": it stays for an HOUR, LAST stays, too", "where(0, 3)", kept.where(0, 3), 2);
        String h = "Terms III: HOURS go on beyond 999, too";
        LostLanes y = led(Boroughs.line(9), 0, "bars if hour < 1000");
        y.terms(0, 999);
        due(h, "where(0, 1)", y.where(0, 1), 0);
        due(h, "where(0, 2)", y.where(0, 2), 1);
        due(h, "found(1, 0)", y.found(1, 0), 2);
        due(h, "post(0)", y.post(0), 0);
        due(h, "the hour", y.count(13), 999);
        LostLanes z = led(Boroughs.line(9), 0, "bars if hour = 1000");
        z.terms(0, 999);
        due(h, "again(0)", z.again(0), 3);
        LostLanes end = led(Boroughs.line(9), 0, "bars if hour < 1000 + 58");
        end.terms(0, 999);
        due(h, "where(0, 59)", end.where(0, 59), 0);
        due(h, "where(0, 60)", end.where(0, 60), 1);
    }

    private static void far() {
        String t = "Terms III: FAR: as LONG as the LANES of the shortest way together";
        LostLanes x = new LostLanes();
        for (int c = 0; c < 8; c++) {
            due(t, "a corner from itself, without lanes", x.far(c, c), 0);
            due(t, "no way", x.far(c, (c + 1) % 8), -1);
        }
        due(t, "the longest that can be", Boroughs.line(9, 9, 9, 9, 9, 9, 9).far(0, 7), 63);
        LostLanes y = Boroughs.line(2, 2, 2);
        y.lane(0, 3, 7, 0);
        due(t, "three lanes of 2, one of 7", y.far(0, 3), 6);
        y.lane(0, 3, 6, 0);
        due(t, "alike", y.far(0, 3), 6);
        y.lane(3, 0, 5, 0);
        due(t, "three lanes of 2, one of 5", y.far(0, 3), 5);
        y.lane(3, 0, 9, 0);
        due(t, "a longer one between the same corners", y.far(3, 0), 5);
        for (int over = 0; over < 8; over++) {
            LostLanes star = new LostLanes();
            for (int c = 0; c < 8; c++) {
                star.lane(c, over, 4, 0);
            }
            due(t, "over the corner " + over, star.far((over + 1) % 8, (over + 7) % 8), 8);
        }
    }

    private static void found() {
        String t = "Terms III: FOUND: the least n 0 .. 60 for which it is n at most FAR";
        due(t, "there", led(Boroughs.line(1), 1, "bars").found(1, 0), 0);
        due(t, "1 off", led(Boroughs.line(1), 1, "bars").found(0, 0), 1);
        due(t, "9 off", led(Boroughs.line(9), 1, "bars").found(0, 0), 9);
        due(t, "59 off", led(Boroughs.line(9, 9, 9, 9, 9, 9, 5), 7, "bars").found(0, 0), 59);
        due(t, "60 off", led(Boroughs.line(9, 9, 9, 9, 9, 9, 6), 7, "bars").found(0, 0), 60);
        due(t, "61 off", led(Boroughs.line(9, 9, 9, 9, 9, 9, 7), 7, "bars").found(0, 0), -1);
        due(t, "no way", led(Boroughs.line(1), 2, "bars").found(0, 0), -1);
        due(t, "one who comes", Boroughs.with(Boroughs.line(1, 1, 1), 3).found(0, 0), 2);
        due(t, "one who goes off", led(Boroughs.line(1, 9), 1, "bars if lane = 0 or hour > 0").found(0, 0), 10);
        due(t, "one who is just there", led(Boroughs.line(3, 9, 9), 3, "bars if last = lane").found(1, 0), 2);
    }

    private static void post() {
        String t = "Terms III: POST: the CORNER from which the last one of all CHILDREN is FOUND soonest; the lowest";
        LostLanes x = led(Boroughs.line(9, 9, 9, 9, 9, 9, 9), 0, "bars");
        due(t, "one child: post(0)", x.post(0), 0);
        due(t, "one child: post(1)", x.post(1), 0);
        x.child(1, 7);
        due(t, "two at the ends: post(0), 3 and 4 alike", x.post(0), 3);
        due(t, "two at the ends: post(1)", x.post(1), 36);
        LostLanes y = Boroughs.with(new LostLanes(), 7);
        due(t, "a corner without lanes: post(0)", y.post(0), 7);
        due(t, "a corner without lanes: post(1)", y.post(1), 0);
        y.child(1, 7);
        due(t, "two there: post(0)", y.post(0), 7);
        y.child(1, 6);
        due(t, "from none all are: post(0)", y.post(0), -1);
        y.lead(2, 7);
        due(t, "all there again: post(0)", y.post(0), 7);
        due(t, "all there again: post(1)", y.post(1), 0);
        for (int c = 0; c < 8; c++) {
            due(t, "a child at the corner " + c, Boroughs.with(Boroughs.square(), c).post(0), c);
        }
        y.child(1, 6);
        due(t, "from none all are: post(1)", y.post(1), -1);
        due(t, "no children: post(0)", Boroughs.square().post(0), -1);
        due(t, "no children: post(1)", Boroughs.square().post(1), -1);
        LostLanes z = led(Boroughs.line(1), 0, "bars");
        z.child(1, 1);
        due(t, "0 and 1 alike: post(0)", z.post(0), 0);
        due(t, "0 and 1 alike: post(1)", z.post(1), 1);
    }

    private static void posts() {
        String t = "Terms III: POSTS for d: the fewest CORNERS from one of which each is d at most FAR; the lowest";
        LostLanes x = Boroughs.line(5);
        due(t, "5 apart, d 4: how many", x.posts(4, 0), 2);
        due(t, "5 apart, d 4: which", x.posts(4, 1), 3);
        due(t, "5 apart, d 5: how many", x.posts(5, 0), 1);
        due(t, "5 apart, d 5: which", x.posts(5, 1), 1);
        LostLanes y = Boroughs.line(1, 1, 1);
        due(t, "a line, d 1: the lowest of alike ones", y.posts(1, 1), 5);
        due(t, "a line, d 0: each", y.posts(0, 1), 15);
        due(t, "a line, d 0: how many", y.posts(0, 0), 4);
        due(t, "50 long, d 50", Boroughs.line(9, 9, 9, 9, 9, 5).posts(50, 1), 1);
        due(t, "51 long, d 50", Boroughs.line(9, 9, 9, 9, 9, 6).posts(50, 1), 2);
        LostLanes all = new LostLanes();
        for (int c = 0; c < 8; c += 2) {
            all.lane(c, c + 1, 9, 0);
        }
        due(t, "all corners, d 8", all.posts(8, 1), 255);
        due(t, "all corners, d 8: how many", all.posts(8, 0), 8);
        due(t, "all corners, d 9", all.posts(9, 1), 1 + 4 + 16 + 64);
        String e = "Terms III: each CORNER at which a LANE ends";
        LostLanes few = new LostLanes();
        due(e, "no lanes: how many", few.posts(0, 0), 0);
        due(e, "no lanes: which", few.posts(50, 1), 0);
        few.lane(6, 7, 1, 0);
        due(e, "one lane", few.posts(1, 1), 64);
        due(e, "one lane, d 0", few.posts(0, 1), 192);
    }

    private static void back() {
        String t = "Terms III: BACK: the least n 1 .. 60 behind which a CHILD is at the CORNER where it is now";
        due(t, "it can't wander", led(Boroughs.line(1), 0, "bars").again(0), 1);
        due(t, "there and back", Boroughs.with(Boroughs.line(1), 0).again(0), 2);
        due(t, "in 59", led(Boroughs.line(1), 0, "bars if hour > 0 and hour < 58").again(0), 59);
        due(t, "in 60", led(Boroughs.line(1), 0, "bars if hour > 0 and hour < 59").again(0), 60);
        due(t, "in 61", led(Boroughs.line(1), 0, "bars if hour > 0 and hour < 60").again(0), -1);
        due(t, "never", led(Boroughs.line(1), 0, "bars if hour > 0").again(0), -1);
        LostLanes round = led(Boroughs.square(), 0, "bars if last = lane; bars if lane = 3 and last < 0");
        due(t, "round a square", round.again(0), 4);
    }

    // Terms III, names

    private static void hear(LostLanes x, int... names) {
        x.forget();
        for (int name : names) {
            x.hear(name);
        }
    }

    private static void gone(String sentence, LostLanes x, int ways, int begins, int ends) {
        due(sentence, "gone(0)", x.gone(0), ways);
        due(sentence, "gone(1)", x.gone(1), begins);
        due(sentence, "gone(2)", x.gone(2), ends);
    }

    private static void gone() {
        String t = "Terms III: GONE: ways by LANES, the NAMES of which are just those HEARD, in that row";
        gone("Terms III: none HEARD: 8, one at each CORNER, without lanes", new LostLanes(), 8, 255, 255);
        LostLanes x = Boroughs.plated(new int[] {0, 1, 1, 0}, new int[] {1, 2, 1, 19}, new int[] {2, 7, 1, -1});
        gone("Terms III: none HEARD: 8, one at each CORNER", x, 8, 255, 255);
        hear(x, 0);
        gone(t + " (0)", x, 2, 3, 3);
        hear(x, 19);
        gone(t + " (19)", x, 2, 6, 6);
        hear(x, 0, 19);
        gone(t + " (0, 19)", x, 1, 1, 4);
        hear(x, 19, 0);
        gone(t + " (19, 0)", x, 1, 4, 1);
        hear(x, 1);
        gone(t + " (a name of none)", x, 0, 0, 0);
        hear(x, 0, 1);
        gone(t + " (a name of none behind)", x, 0, 0, 0);
        hear(x, 1, 0);
        gone(t + " (a name of none ahead)", x, 0, 0, 0);
        hear(x, 0, 0, 0, 0, 0, 0);
        gone("Terms III: a LANE may be gone along again", x, 2, 3, 3);
        hear(x, 0, 0, 0, 0, 0, 19);
        gone("Terms III: a LANE may be gone along again, then on", x, 1, 1, 4);
        LostLanes two = Boroughs.plated(new int[] {0, 1, 1, 5}, new int[] {0, 1, 1, 5}, new int[] {0, 1, 1, 6});
        hear(two, 5);
        gone(t + " (two lanes alike)", two, 4, 3, 3);
        hear(two, 5, 6, 5);
        gone(t + " (two lanes alike, twice)", two, 8, 3, 3);
        LostLanes meet = Boroughs.plated(new int[] {0, 1, 1, 5}, new int[] {1, 2, 1, 5});
        hear(meet, 5);
        gone(t + " (two lanes that meet)", meet, 4, 7, 7);
        hear(meet, 5, 5);
        gone(t + " (two lanes that meet, twice)", meet, 6, 7, 7);
    }

    private static void letter() {
        String t = "Terms III: a LETTER: the shortest way to an end of any LANE that has it";
        LostLanes x = Boroughs.plated(new int[] {0, 1, 9, -1}, new int[] {1, 2, 9, -1}, new int[] {2, 3, 9, -1},
                new int[] {3, 4, 9, -1}, new int[] {4, 5, 9, -1}, new int[] {5, 6, 9, -1}, new int[] {6, 7, 9, 19});
        due(t, "how long", x.letter(0, 19, -1), 54);
        due(t, "the lane", x.letter(0, 19, -2), 6);
        for (int i = 0; i < 6; i++) {
            due(t, "corner " + i, x.letter(0, 19, i), i + 1);
        }
        due(t, "beyond its end", x.letter(0, 19, 6), -1);
        due(t, "i -3", x.letter(0, 19, -3), -1);
        String n = "Promise 32: none, if it is there";
        due(n, "how long", x.letter(6, 19, -1), 0);
        due(n, "the lane", x.letter(6, 19, -2), 6);
        due(n, "corner 0", x.letter(6, 19, 0), -1);
        due(n, "the other end: how long", x.letter(7, 19, -1), 0);
        due(n, "the other end: corner 0", x.letter(7, 19, 0), -1);
        due(n, "next to it: corner 0", x.letter(5, 19, 0), 6);
        due(n, "next to it: corner 1", x.letter(5, 19, 1), -1);
        String o = "Promise 32: NONE (no LANE that can be come to has it; others)";
        LostLanes y = Boroughs.plated(new int[] {0, 1, 1, 0}, new int[] {2, 3, 1, 7});
        for (int i = -3; i < 2; i++) {
            due(o, "no way, i " + i, y.letter(0, 7, i), -1);
            due(o, "no such name, i " + i, y.letter(0, 8, i), -1);
            due(o, "no corner with a lane, i " + i, y.letter(7, 0, i), -1);
            due(o, "the corner 8, i " + i, y.letter(8, 0, i), -1);
            due(o, "the corner -1, i " + i, y.letter(-1, 0, i), -1);
            due(o, "the name 20, i " + i, y.letter(0, 20, i), -1);
            due(o, "the name -1, i " + i, y.letter(0, -1, i), -1);
        }
    }

    private static void letterOfAlikeOnes() {
        String l = "Terms III: the lowest such LANE of those with an end as near";
        LostLanes x = Boroughs.plated(new int[] {0, 1, 3, -1}, new int[] {2, 0, 3, -1}, new int[] {1, 3, 9, 4},
                new int[] {2, 4, 9, 4}, new int[] {5, 0, 4, 4});
        due(l, "a lane at the corner", x.letter(0, 4, -2), 4);
        LostLanes alike = Boroughs.plated(new int[] {0, 1, 3, -1}, new int[] {2, 0, 3, -1}, new int[] {2, 4, 9, 4},
                new int[] {1, 3, 9, 4});
        due(l, "3 to both", alike.letter(0, 4, -2), 2);
        due(l, "its way", alike.letter(0, 4, 0), 2);
        LostLanes nearer = Boroughs.plated(new int[] {0, 1, 2, -1}, new int[] {2, 0, 3, -1}, new int[] {2, 4, 9, 4},
                new int[] {1, 3, 9, 4});
        due(l, "2 to the higher one", nearer.letter(0, 4, -2), 3);
        String e = "Terms III: to the nearer end (the lower one of alike ones)";
        due(e, "alike", Boroughs.plated(new int[] {0, 5, 2, -1}, new int[] {0, 4, 2, -1}, new int[] {5, 4, 9, 0})
                .letter(0, 0, 0), 4);
        due(e, "the higher one nearer", Boroughs.plated(new int[] {0, 5, 1, -1}, new int[] {0, 4, 2, -1},
                new int[] {4, 5, 9, 0}).letter(0, 0, 0), 5);
        due(e, "the lower one nearer", Boroughs.plated(new int[] {0, 5, 2, -1}, new int[] {0, 4, 1, -1},
                new int[] {5, 4, 9, 0}).letter(0, 0, 0), 4);
        String w = "Terms III: the way as a row of CORNERS, the first by CORNERS one behind the other";
        LostLanes ways = Boroughs.plated(new int[] {0, 3, 1, -1}, new int[] {3, 4, 1, -1}, new int[] {0, 2, 1, -1},
                new int[] {2, 4, 1, -1}, new int[] {0, 4, 2, -1}, new int[] {4, 6, 1, 9}, new int[] {0, 1, 1, -1});
        due(w, "2 is ahead of 3 and 4", ways.letter(0, 9, 0), 2);
        due(w, "then 4", ways.letter(0, 9, 1), 4);
        due(w, "then nothing", ways.letter(0, 9, 2), -1);
        due(w, "how long", ways.letter(0, 9, -1), 2);
        LostLanes sooner = Boroughs.plated(new int[] {0, 5, 1, -1}, new int[] {5, 3, 1, -1}, new int[] {0, 3, 2, -1},
                new int[] {3, 7, 1, 9});
        LostLanes over = Boroughs.plated(new int[] {5, 0, 1, -1}, new int[] {0, 6, 1, -1}, new int[] {6, 7, 1, 9},
                new int[] {5, 1, 1, -1}, new int[] {1, 6, 1, -1});
        due(w, "over the corner 0", over.letter(5, 9, 0), 0);
        due(w, "over the corner 0, then 6", over.letter(5, 9, 1), 6);
        due(w, "3 at once is ahead of 5, 3", sooner.letter(0, 9, 0), 3);
        due(w, "and ends there", sooner.letter(0, 9, 1), -1);
    }

    private static void toldApart() {
        String t = "Terms III: TOLD APART: the fewest NAMES so that no two LANES at one CORNER have the same";
        due(t, "no lanes", new LostLanes().apart(0), 0);
        due(t, "one lane", Boroughs.line(1).apart(0), 1);
        due(t, "ten lanes at one corner", Boroughs.bundle(10).apart(0), 10);
        due(t, "the first of ten", Boroughs.bundle(10).apart(1), 0);
        due(t, "the last of ten", Boroughs.bundle(10).apart(10), 9);
        due(t, "an eleventh", Boroughs.bundle(10).apart(11), -1);
        due(t, "a line", Boroughs.line(1, 1, 1, 1, 1, 1, 1).apart(0), 2);
        due(t, "a round of four", Boroughs.square().apart(0), 2);
        LostLanes three = Boroughs.line(1, 1);
        three.lane(2, 0, 1, 0);
        due(t, "a round of three", three.apart(0), 3);
        LostLanes star = new LostLanes();
        for (int c = 1; c < 8; c++) {
            star.lane(0, c, 1, 0);
        }
        due(t, "a star of seven", star.apart(0), 7);
        LostLanes pairs = new LostLanes();
        for (int c = 0; c < 8; c += 2) {
            pairs.lane(c, c + 1, 1, 0);
        }
        due(t, "four that do not meet", pairs.apart(0), 1);
        String r = "Terms III: the first row of them by LANES, 0 on";
        LostLanes x = new LostLanes();
        x.lane(0, 1, 1, 0);
        x.lane(2, 3, 1, 0);
        x.lane(1, 2, 1, 0);
        x.lane(4, 5, 1, 0);
        int[] row = {0, 0, 1, 0};
        for (int lane = 0; lane < 4; lane++) {
            due(r, "lane " + lane, x.apart(1 + lane), row[lane]);
        }
        LostLanes later = new LostLanes();
        later.lane(0, 1, 1, 0);
        later.lane(3, 4, 1, 0);
        later.lane(1, 2, 1, 0);
        later.lane(2, 3, 1, 0);
        // By two names the second lane can't have 0, though nothing ahead of it forbids that.
        int[] forced = {0, 1, 1, 0};
        due(r, "how many", later.apart(0), 2);
        for (int lane = 0; lane < 4; lane++) {
            due(r, "of a line, lane " + lane, later.apart(1 + lane), forced[lane]);
        }
    }

    private static void alike() {
        String t = "Terms III: ALIKE: twos of LANES with the same NAME that have a CORNER in common";
        due(t, "no lanes", new LostLanes().alike(), 0);
        due(t, "none has a name", Boroughs.bundle(10).alike(), 0);
        due(t, "one has one", Boroughs.plated(new int[] {0, 1, 1, 0}, new int[] {1, 2, 1, -1}).alike(), 0);
        due(t, "the name 0", Boroughs.plated(new int[] {0, 1, 1, 0}, new int[] {1, 2, 1, 0}).alike(), 1);
        due(t, "0 and 1", Boroughs.plated(new int[] {0, 1, 1, 0}, new int[] {1, 2, 1, 1}).alike(), 0);
        due(t, "no corner in common", Boroughs.plated(new int[] {0, 1, 1, 3}, new int[] {2, 3, 1, 3}).alike(), 0);
        due(t, "two corners in common", Boroughs.plated(new int[] {0, 1, 1, 3}, new int[] {1, 0, 1, 3}).alike(), 1);
        due(t, "first and first", Boroughs.plated(new int[] {0, 1, 1, 3}, new int[] {0, 2, 1, 3}).alike(), 1);
        due(t, "first and second", Boroughs.plated(new int[] {0, 1, 1, 3}, new int[] {2, 0, 1, 3}).alike(), 1);
        due(t, "second and second", Boroughs.plated(new int[] {1, 0, 1, 3}, new int[] {2, 0, 1, 3}).alike(), 1);
        int[][] ten = new int[10][];
        for (int i = 0; i < 10; i++) {
            ten[i] = new int[] {0, 1, 1, 19};
        }
        due(t, "ten", Boroughs.plated(ten).alike(), 45);
    }

    private static void round() {
        String t = "Terms III: a ROUND: none, if LANES do not hang together (no LANES: 0)";
        due(t, "no lanes", new LostLanes().round(), 0);
        due(t, "one lane of 1", Boroughs.line(1).round(), 2);
        due(t, "a line of seven, of 9", Boroughs.line(9, 9, 9, 9, 9, 9, 9).round(), 126);
        due(t, "ten lanes of 1", Boroughs.bundle(10).round(), 10);
        due(t, "nine lanes of 1", Boroughs.bundle(9).round(), 10);
        LostLanes apart = new LostLanes();
        apart.lane(1, 2, 1, 0);
        apart.lane(6, 7, 1, 0);
        due(t, "two apart", apart.round(), -1);
        apart.lane(7, 1, 1, 0);
        due(t, "joined", apart.round(), 6);
        due(t, "a square", Boroughs.square().round(), 14);
        LostLanes x = Boroughs.square();
        x.lane(0, 2, 9, 0);
        due(t, "a square with a lane across", x.round(), 14 + 9 + 5);
        LostLanes far = new LostLanes();
        far.lane(7, 6, 9, 0);
        due(t, "far from the corner 0", far.round(), 18);
        LostLanes threes = new LostLanes();
        threes.lane(0, 1, 9, 0);
        threes.lane(0, 1, 9, 0);
        threes.lane(0, 1, 1, 0);
        due(t, "back by the shortest lane", threes.round(), 20);
        LostLanes star = new LostLanes();
        for (int c = 1; c < 8; c++) {
            star.lane(0, c, c, 0);
        }
        due(t, "all eight corners odd", star.round(), 56);
        LostLanes four = Boroughs.square();
        four.lane(0, 2, 9, 0);
        four.lane(1, 3, 9, 0);
        // Four corners odd: 0 and 1, 2 and 3 (2 + 4) are put together, not 1 and 2, 0 and 3 (3 + 5).
        due(t, "four corners odd", four.round(), 14 + 18 + 6);
    }

    private static void dead() {
        String t = "Terms III: DEAD ends: CORNERS at which just one LANE ends";
        due(t, "no lanes", new LostLanes().dead(), 0);
        due(t, "one lane", Boroughs.line(1).dead(), 3);
        due(t, "a line", Boroughs.line(1, 1, 1, 1, 1, 1, 1).dead(), 129);
        due(t, "a square", Boroughs.square().dead(), 0);
        due(t, "two between the same corners", Boroughs.bundle(2).dead(), 0);
        due(t, "three between the same corners", Boroughs.bundle(3).dead(), 0);
    }

    private static void few() {
        String t = "Terms III: FEW: fewer than k cry, of 1,000,000,000,000 parts";
        long all = 1000000000000L;
        LostLanes x = new LostLanes();
        due(t, "few(1, 0)", x.few(1, 0), all);
        due(t, "few(20, 0)", x.few(20, 0), all);
        due(t, "few(1, 1)", x.few(1, 1), 900000000000L);
        due(t, "few(2, 1)", x.few(2, 1), all);
        due(t, "few(1, 2)", x.few(1, 2), 810000000000L);
        due(t, "few(2, 2)", x.few(2, 2), 990000000000L);
        due(t, "few(3, 2)", x.few(3, 2), all);
        due(t, "the part of all 19 is cut away", x.few(20, 19), x.few(19, 19));
        String c = "Terms III: FEW: each part times the rest by ten and times CRIES by ten (one more), both cut";
        x.terms(1, 3);
        due(c, "7 to the 13th by ten, cut", x.few(1, 13), 9688901040L);
        x.terms(1, 4);
        // 12 children: 2176782336 with none, 17414258688 with one; then .8 and .4 are cut by themselves.
        due(c, "each cut by itself", x.few(2, 13), 1306069401L + 10448555212L + 870712934L);
        String e = "Terms III: FEW: CRIES of ten, at 0 and 10";
        x.terms(1, 0);
        due(e, "none cries: few(1, 99)", x.few(1, 99), all);
        due(e, "none cries: few(20, 99)", x.few(20, 99), all);
        x.terms(1, 10);
        due(e, "all cry: few(20, 19)", x.few(20, 19), all);
        due(e, "all cry: few(20, 20)", x.few(20, 20), 0);
        due(e, "all cry: few(1, 0)", x.few(1, 0), all);
        due(e, "all cry: few(1, 1)", x.few(1, 1), 0);
        due(e, "all cry: few(20, 99)", x.few(20, 99), 0);
    }

    private static void compared() {
        String t = "Terms III: COMPARED: the CORNER to which a CHILD would WANDER now by a LAW in place of that in FORCE";
        LostLanes x = Boroughs.with(Boroughs.square(), 0);
        x.child(1, 7);
        Due.law(x, "turns 1");
        Due.law(x, "bars");
        Due.law(x, "turns hour");
        x.force(1);
        due(t, "by none", x.compare(-1, 0), 1);
        due(t, "by law 0", x.compare(0, 0), 3);
        due(t, "by law 1, where it is, as it can't", x.compare(1, 0), 0);
        due(t, "by the last law, at the hour 0", x.compare(2, 0), 1);
        x.terms(0, 1);
        due(t, "by the last law, at the hour 1", x.compare(2, 0), 3);
        due(t, "by a law that is not", x.compare(3, 0), -1);
        due(t, "by the law -2", x.compare(-2, 0), -1);
        due(t, "where it is, without lanes", x.compare(0, 1), 7);
        due(t, "a child that is not", x.compare(0, 2), -1);
    }

    // Terms IV

    private static int draw(int s) {
        return (int) ((s * 1103L + 12345) % 1000003);
    }

    /** Decades compared with the same steps by calls on the object itself; which draws there were, and if they could be. */
    private static void byCalls(String sentence, LostLanes x, int seed, int n, int times, int[] seen) {
        String decades = "decades(" + seed + ", " + n + ")";
        int named = x.decades(seed, n);
        int s = seed;
        for (int i = 0; i < times; i++) {
            s = draw(s);
            int child = s % x.count(1);
            s = draw(s);
            int corner = s % 8;
            s = draw(s);
            int what = s % 4;
            int told = what < 2 ? x.cry(child) : what == 2 ? x.lead(child, corner) : 0;
            seen[2 * what + (told < 0 ? 0 : 1)]++;
            due(sentence, "pass() by hand at " + x.count(13), Math.min(0, x.pass()), 0);
        }
        due(sentence, decades, named, x.count(2));
        for (int k = 0; k < x.count(1); k++) {
            due(sentence, "drawn(" + k + ", 0) behind " + decades, x.drawn(k, 0), x.of(k, 1));
        }
        for (int k = 0; k < x.count(0); k++) {
            due(sentence, "drawn(" + k + ", 1) behind " + decades, x.drawn(k, 1), x.at(k, 4));
        }
    }

    private static void draws() {
        String t = "Terms IV: DRAWS of CHILDREN, of 8, of 4: at 0, 1 that CHILD CRIES, at 2 it is LED, at 3 nothing";
        int[] seen = new int[8];
        for (int kids = 1; kids <= 4; kids++) {
            for (int seed : new int[] {0, 1, 2, 3, 4, 5, 6, 7, 8, 9, 500000, 999999, 1000000}) {
                for (int n : new int[] {1, 2, 3, 25}) {
                    LostLanes x = Boroughs.square();
                    for (int k = 0; k < kids; k++) {
                        x.child(k + 1, 2 * k);
                    }
                    Boroughs.under(x, "turns hour + age; says hour");
                    byCalls(t, x, seed, n, n, seen);
                }
            }
        }
        for (int kind = 0; kind < 8; kind++) {
            // At 3 there is nothing that can't be.
            due(t, "draws of the kind " + kind + " were seen", seen[kind] > 0 ? 1 : 0, kind == 6 ? 0 : 1);
        }
        Due.within("Terms IV: the SEED (0 .. 1,000,000)", 0, 1000000,
                s -> Boroughs.with(new LostLanes(), 0).decades(s, 1), s -> 0, -1);
        Due.within("Terms IV: n 1 .. 60", 1, 60, n -> Boroughs.with(new LostLanes(), 0).decades(1, n), n -> 0, -1);
    }

    private static void decadesAtTheLastHour() {
        String t = "Terms IV: at HOUR 999 it ends";
        int[][] hours = {{999, 60, 0}, {999, 1, 0}, {998, 60, 1}, {998, 1, 1}, {997, 60, 2}, {997, 1, 1}, {940, 60, 59},
            {939, 60, 60}, {938, 60, 60}, {0, 60, 60}};
        for (int[] h : hours) {
            for (int seed = 0; seed < 4; seed++) {
                LostLanes x = Boroughs.with(Boroughs.line(1), 0);
                x.wander(0);
                x.terms(0, h[0]);
                byCalls(t, x, seed, h[1], h[2], new int[8]);
            }
        }
    }

    private static void rows() {
        String t = "Terms IV: a ROW: two CORNERS, LONG, a SIGHT: a LANE; one that can't be is GRAVEL";
        int[][] can = {{0, 7, 1, 0}, {7, 0, 9, 4}};
        int[][] cannot = {{8, 0, 1, 0}, {0, 8, 1, 0}, {255, 0, 1, 0}, {0, 255, 1, 0}, {3, 3, 1, 0}, {0, 1, 0, 0},
            {0, 1, 10, 0}, {0, 1, 255, 0}, {0, 1, 1, 5}, {0, 1, 1, 255}};
        for (int[] bytes : can) {
            LostLanes x = new LostLanes();
            Due.writeBytes(x, bytes);
            due(t, "row() of one that can be", x.row(), 1);
            due(t, "gravel() of one that can be", x.gravel(), 0);
            for (int what = 0; what < 4; what++) {
                due(t, "at(0, " + what + ")", x.at(0, what), bytes[what]);
            }
            due(t, "no name", x.at(0, 4), -1);
        }
        for (int[] bytes : cannot) {
            LostLanes x = new LostLanes();
            Due.writeBytes(x, bytes);
            due(t, "row() of one that can't be", x.row(), 0);
            due(t, "gravel() of one that can't be", x.gravel(), 1);
            due(t, "status()", x.status(), 0);
            due(t, "lanes", x.count(0), 0);
        }
        LostLanes x = new LostLanes();
        Due.writeBytes(x, 9, 9, 9, 9, 0, 1, 1, 0, 9, 9, 9, 9, 1, 2, 1, 0, 9, 9, 9, 9);
        due(t, "row() of both kinds", x.row(), 2);
        due(t, "gravel() of both kinds", x.gravel(), 3);
        due(t, "the second lane", x.at(1, 1), 2);
    }

    private static void rowsOfBytes() {
        String t = "Terms IV: one within which the TAPE ends is GRAVEL";
        for (int bytes = 1; bytes < 10; bytes++) {
            LostLanes x = new LostLanes();
            Due.writeBytes(x, java.util.Arrays.copyOf(new int[] {0, 1, 1, 0, 1, 2, 1, 0, 2, 3, 1, 0}, bytes));
            due(t, "row() of bytes: " + bytes, x.row(), bytes / 4);
            due(t, "gravel() of bytes: " + bytes, x.gravel(), bytes % 4 == 0 ? 0 : 1);
            due(t, "the tape is empty then", x.count(6), 0);
        }
        String r = "Terms IV: one for which there is no room is GRAVEL";
        LostLanes x = new LostLanes();
        for (int i = 0; i < 20; i++) {
            x.feed(0x00010100, 0x01020904, 0x02030100, 0x03040100, 0x04050100);
        }
        due(r, "row() of 100", x.row(), 10);
        due(r, "gravel() of 100", x.gravel(), 90);
        due(r, "count(0)", x.count(0), 10);
        due(r, "the last lane", x.at(9, 1), 5);
        Due.writeBytes(x, 0, 1, 1, 0, 3);
        due(r, "row() without room", x.row(), 0);
        due(r, "gravel() without room", x.gravel(), 2);
        due(r, "status()", x.status(), 0);
        LostLanes nine = Boroughs.bundle(9);
        Due.writeBytes(nine, 3, 3, 1, 0, 0, 1, 1, 0, 0, 1, 1, 0);
        due(r, "row() with room for one", nine.row(), 1);
        due(r, "gravel() with room for one", nine.gravel(), 2);
    }

    private static LostLanes imaged() {
        LostLanes x = Boroughs.with(Boroughs.square(), 0);
        Boroughs.under(x, "turns 1; says 8");
        x.terms(0, 10);
        x.terms(1, 2);
        x.terms(2, 3);
        x.hear(8);
        x.wander(0);
        x.cry(0);
        return x;
    }

    private static void images() {
        String t = "Terms IV: BACK to one all that it keeps is as it was then (IMAGES stay)";
        LostLanes x = imaged();
        x.image(0);
        x.lane(5, 6, 1, 1);
        x.child(2, 5);
        x.wander(0);
        x.cry(0);
        x.forget();
        x.hear(1);
        x.hear(2);
        Due.law(x, "turns 5");
        x.force(1);
        x.terms(0, 500);
        x.terms(1, 9);
        x.terms(2, 9);
        x.image(1);
        for (int times = 0; times < 2; times++) {
            due(t, "back(0)", x.back(0), 0);
            int[] counts = {4, 1, 1, 1, 1, 0};
            for (int what = 0; what < counts.length; what++) {
                due(t, "count(" + what + ")", x.count(what), counts[what]);
            }
            due(t, "the law in force", x.count(12), 0);
            due(t, "HOUR", x.count(13), 10);
            due(t, "CRIES", x.count(14), 2);
            due(t, "MOOD", x.count(15), 3);
            due(t, "the corner", x.of(0, 1), 3);
            due(t, "last", x.of(0, 2), 3);
            due(t, "the name", x.at(3, 4), 8);
            due(t, "gone(0)", x.gone(0), 2);
            due(t, "at(4, 0)", x.at(4, 0), -1);
            due(t, "of(1, 0)", x.of(1, 0), -1);
            due(t, "force(1)", x.force(1), -2);
            due(t, "back(1)", x.back(1), 0);
            due(t, "lanes of the other one", x.count(0), 5);
            due(t, "heard of the other one", x.count(3), 2);
            due(t, "force of the other one", x.of(0, 3), 5);
            due(t, "HOUR of the other one", x.count(13), 500);
            x.wander(0);
            x.child(1, 1);
        }
        String k = "Terms IV: IMAGES 0, 1";
        Due.within(k, 0, 1, i -> new LostLanes().image(i), i -> 0, -1);
        Due.within(k, 0, 1, i -> new LostLanes().back(i), i -> -2, -1);
        LostLanes again = imaged();
        again.image(0);
        again.terms(2, 7);
        again.image(0);
        again.terms(2, 1);
        again.back(0);
        due(k, "kept anew", again.count(15), 7);
        LostLanes empty = new LostLanes();
        empty.image(1);
        empty.lane(0, 1, 2, 3);
        empty.child(4, 5);
        empty.image(0);
        empty.back(1);
        due(k, "an empty borough", empty.count(0) + empty.count(1), 0);
        empty.lane(6, 7, 8, 4);
        empty.child(9, 3);
        empty.back(0);
        for (int what = 0; what < 4; what++) {
            due(t, "at(0, " + what + "), another one in its place", empty.at(0, what), what);
        }
        due(t, "of(0, 0), another one in its place", empty.of(0, 0), 4);
        due(t, "of(0, 1), another one in its place", empty.of(0, 1), 5);
    }

    private static void imagesDoNotKeep() {
        String t = "Terms IV: IMAGES keep all but the TAPE, FAULT, GRAVEL, where ORDERS stopped, what can be undone, DECADES";
        LostLanes x = imaged();
        x.image(0);
        Due.writeBytes(x, 9);
        x.row();
        Due.orders(x, "pass; wander 5");
        Due.law(x, "turns ,");
        x.lead(0, 1);
        x.decades(4, 1);
        int drawn = x.drawn(0, 0);
        Due.write(x, "abcdefg");
        x.lane(9, 9, 9, 9);
        due(t, "what can be undone ahead", x.count(5), 1);
        due(t, "back(0)", x.back(0), 0);
        due(t, "the TAPE", x.count(6), 7);
        due(t, "FAULT", x.fault(), 6);
        due(t, "GRAVEL", x.gravel(), 1);
        due(t, "stopped()", x.stopped(), 1);
        due(t, "nothing can be undone", x.count(5), 0);
        due(t, "undo()", x.undo(), -3);
        due(t, "DECADES", x.drawn(0, 0), drawn);
        due("Promise 43: IMAGES do not keep that", "count(7)", x.count(7), 1);
        due("Promise 43: IMAGES do not keep that", "count(9)", x.count(9), 2);
        due("Promise 43: IMAGES do not keep that", "count(11)", x.count(11), 1);
    }
}
