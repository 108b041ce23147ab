import java.util.Arrays;

/** A borough in which lost children name the lanes. The document DOC.md says what each call answers. */
public final class LostLanes {
    public static final int NONE = -1;

    private static final int NO_NUMBER = -1;
    private static final int NO_SUCH = -2;
    private static final int CANNOT = -3;
    private static final int NO_ROOM = -5;
    private static final int NO_TEXT = -6;

    private static final int CORNERS = 8;
    private static final int MOST_LANES = 10;
    private static final int MOST_CHILDREN = 4;
    private static final int MOST_HEARD = 6;
    private static final int MOST_LAWS = 6;
    private static final int MOST_BYTES = 400;
    private static final int NAMES = 20;
    private static final int LAST_HOUR = 999;
    private static final int LONGEST_LOOK = 60;
    private static final int MOST_FEW = 20;
    private static final int MOST_CRIERS = 99;
    private static final long ALL_PARTS = 1000000000000L;

    private static final int HOUR = 0;
    private static final int CRIES = 1;
    private static final int MOOD = 2;
    private static final int[] MOST_OF_TERM = {999, 10, 9};

    private static final int TURNS = 0;
    private static final int SAYS = 1;
    private static final int BARS = 2;
    private static final String LAW_KINDS = "turns says bars";
    private static final String LAW_WORDS = "child age lane long sight corner last hour mood";
    private static final int LAW_WORD_COUNT = 9;

    private static final int WANDER = 0;
    private static final int CRY = 1;
    private static final int LEAD = 2;
    private static final int PASS = 3;
    private static final String ORDER_KINDS = "wander cry lead pass";
    private static final String ORDER_WORDS = "hour done latest named kids at plate";
    private static final int DONE_WORD = 1;
    private static final int LATEST_WORD = 2;
    private static final int AT_WORD = 5;
    /** Where the plates' words begin: behind hour, done, latest, named, kids and the four of "at". */
    private static final int PLATE_WORDS = AT_WORD + MOST_CHILDREN;
    private static final int ORDER_WORD_COUNT = PLATE_WORDS + MOST_LANES;

    /** No sum comes so far below 0. */
    private static final int BROKEN = -2000000000;
    private static final int FAR_OFF = 1000000;

    private final Town town = new Town();
    private final Town before = new Town();
    /** Behind decades() it stays as they left it; it is empty ahead of any. */
    private final Town decade = new Town();
    private final Town[] images = new Town[2];
    private final Log log = new Log();
    private final Log logBefore = new Log();
    private final Reader reader = new Reader();
    private final Tape tape = reader.tape;
    private final Wits wits = new Wits();
    private final Reckoner reckoner = wits.reckoner;
    private final Ways ways = new Ways();
    private final Plates plates = new Plates();
    private final int[] orderWords = new int[ORDER_WORD_COUNT];
    private final int[] refusals = new int[7];
    /** By how many cried; those of fewer than MOST_FEW are enough. */
    private final long[] chances = new long[MOST_FEW];
    private int latestStatus;
    private int stoppedAt = NONE;
    private int gravelCount;

    public LostLanes() {
    }

    public int lane(int one, int other, int length, int sight) {
        if (!canBeLane(one, other, length, sight)) {
            return refuse(NO_NUMBER);
        }
        if (town.lanes >= MOST_LANES) {
            return refuse(NO_ROOM);
        }
        log.size = 0;
        return accept(town.addLane(one, other, length, sight));
    }

    public int at(int lane, int what) {
        if (!town.hasLane(lane)) {
            return NONE;
        }
        switch (what) {
            case 0:
                return town.ones[lane];
            case 1:
                return town.others[lane];
            case 2:
                return town.lengths[lane];
            case 3:
                return town.sights[lane];
            case 4:
                return town.names[lane];
            default:
                return NONE;
        }
    }

    public int child(int age, int corner) {
        if (age < 1 || age > 9 || !isCorner(corner)) {
            return refuse(NO_NUMBER);
        }
        if (town.children >= MOST_CHILDREN) {
            return refuse(NO_ROOM);
        }
        log.size = 0;
        return accept(town.addChild(age, corner));
    }

    public int of(int child, int what) {
        if (!town.hasChild(child)) {
            return NONE;
        }
        switch (what) {
            case 0:
                return town.ages[child];
            case 1:
                return town.corners[child];
            case 2:
                return town.lasts[child];
            case 3:
                return wits.turnOf(town, town.lawInForce(), child);
            case 4:
                return wits.laneTaken(town, town.lawInForce(), child);
            default:
                return NONE;
        }
    }

    public int asks(int child, int lane, int what) {
        if (!town.hasChild(child) || !town.hasLane(lane)) {
            return NONE;
        }
        if (what == 0) {
            return wits.nameSaid(town, child, lane);
        }
        if (what == 1) {
            return wits.isBarred(town, town.lawInForce(), child, lane) ? 1 : 0;
        }
        return NONE;
    }

    public int terms(int what, int value) {
        if (what < 0 || what >= MOST_OF_TERM.length || value < 0 || value > MOST_OF_TERM[what]) {
            return refuse(NO_NUMBER);
        }
        int was = town.terms[what];
        town.terms[what] = value;
        log.size = 0;
        return accept(was);
    }

    public int feed(int a, int b, int c, int d, int e) {
        if (tape.length + 20 > MOST_BYTES) {
            return NONE;
        }
        tape.addFour(a);
        tape.addFour(b);
        tape.addFour(c);
        tape.addFour(d);
        tape.addFour(e);
        return tape.length;
    }

    public int end(int n) {
        if (n < 0 || n > tape.length) {
            return NONE;
        }
        tape.length = n;
        return n;
    }

    public int row() {
        if (tape.length == 0) {
            return refuse(NO_TEXT);
        }
        int came = 0;
        gravelCount = 0;
        for (int i = 0; i < tape.length; i += 4) {
            if (layLane(i)) {
                came++;
            } else {
                gravelCount++;
            }
        }
        tape.length = 0;
        log.size = 0;
        return accept(came);
    }

    public int gravel() {
        return gravelCount;
    }

    public int law() {
        if (town.lawCount >= MOST_LAWS) {
            tape.length = 0;
            return refuse(NO_ROOM);
        }
        Script script = reader.read(true);
        tape.length = 0;
        if (script == null) {
            return refuse(NO_TEXT);
        }
        town.laws[town.lawCount] = script;
        town.lawCount++;
        return accept(town.lawCount - 1);
    }

    public int orders() {
        Script script = reader.read(false);
        tape.length = 0;
        stoppedAt = NONE;
        if (script == null) {
            return refuse(NO_TEXT);
        }
        before.become(town);
        logBefore.become(log);
        orderWords[DONE_WORD] = 0;
        orderWords[LATEST_WORD] = NONE;
        for (int i = 0; i < script.size; i++) {
            Clause clause = script.clauses[i];
            for (int n = 0; clause != null && n < clause.times; n++) {
                if (!obey(script, clause)) {
                    return giveUp(i);
                }
            }
        }
        return accept(orderWords[DONE_WORD]);
    }

    public int fault() {
        return reader.faultAt;
    }

    public int stopped() {
        return stoppedAt;
    }

    public int force(int law) {
        if (law != NONE && !town.hasLaw(law)) {
            return refuse(NO_SUCH);
        }
        int was = town.force;
        town.force = law;
        return accept(was);
    }

    public int wander(int child) {
        return answer(act(WANDER, child, NONE));
    }

    public int cry(int child) {
        return answer(act(CRY, child, NONE));
    }

    public int lead(int child, int corner) {
        return answer(act(LEAD, child, corner));
    }

    public int pass() {
        return answer(act(PASS, NONE, NONE));
    }

    public int undo() {
        if (log.size <= 0) {
            return refuse(CANNOT);
        }
        return accept(log.takeBack(town));
    }

    public int where(int child, int n) {
        if (!town.hasChild(child) || n < 0 || n > LONGEST_LOOK) {
            return NONE;
        }
        wits.follow(town, child, n);
        return wits.track[n];
    }

    public int far(int from, int to) {
        if (!isCorner(from) || !isCorner(to)) {
            return NONE;
        }
        ways.measure(town);
        int far = ways.between(from, to);
        return far < FAR_OFF ? far : NONE;
    }

    public int found(int corner, int child) {
        if (!isCorner(corner) || !town.hasChild(child)) {
            return NONE;
        }
        ways.measure(town);
        wits.follow(town, child, LONGEST_LOOK);
        int hour = ways.meets(corner, wits.track);
        return hour < FAR_OFF ? hour : NONE;
    }

    public int post(int what) {
        if (what < 0 || what > 1 || town.children == 0) {
            return NONE;
        }
        ways.measure(town);
        Arrays.fill(ways.slowest, 0);
        for (int child = 0; child < town.children; child++) {
            wits.follow(town, child, LONGEST_LOOK);
            ways.slow(wits.track);
        }
        int best = ways.quickest();
        int hours = ways.slowest[best];
        if (hours >= FAR_OFF) {
            return NONE;
        }
        return what == 0 ? best : hours;
    }

    public int posts(int d, int what) {
        if (d < 0 || d > 50 || what < 0 || what > 1) {
            return NONE;
        }
        ways.measure(town);
        int set = ways.fewestPosts(d, ways.cornersWithLanes(town));
        return what == 0 ? Integer.bitCount(set) : set;
    }

    public int again(int child) {
        if (!town.hasChild(child)) {
            return NONE;
        }
        wits.follow(town, child, LONGEST_LOOK);
        for (int n = 1; n <= LONGEST_LOOK; n++) {
            if (wits.track[n] == wits.track[0]) {
                return n;
            }
        }
        return NONE;
    }

    public int hear(int name) {
        if (!isName(name)) {
            return refuse(NO_NUMBER);
        }
        if (town.heardCount >= MOST_HEARD) {
            return refuse(NO_ROOM);
        }
        town.heard[town.heardCount] = name;
        town.heardCount++;
        return accept(town.heardCount);
    }

    public int forget() {
        int was = town.heardCount;
        town.heardCount = 0;
        return was;
    }

    public int gone(int what) {
        if (what < 0 || what > 2) {
            return NONE;
        }
        plates.retrace(town);
        if (what == 0) {
            return plates.trails;
        }
        return what == 1 ? plates.begins : plates.finishes;
    }

    public int named(int name) {
        if (!isName(name)) {
            return NONE;
        }
        for (int lane = 0; lane < town.lanes; lane++) {
            if (town.names[lane] == name) {
                return lane;
            }
        }
        return NONE;
    }

    public int letter(int from, int name, int i) {
        if (!isCorner(from) || !isName(name) || i < -2) {
            return NONE;
        }
        ways.measure(town);
        int lane = ways.nearestNamed(town, from, name);
        if (lane == NONE || i == -2) {
            return lane;
        }
        int goal = ways.nearerEnd(town, from, lane);
        return i == NONE ? ways.between(from, goal) : ways.cornerOnWay(from, goal, i);
    }

    public int apart(int what) {
        if (what != 0 && !town.hasLane(what - 1)) {
            return NONE;
        }
        int fewest = plates.tellApart(town);
        return what == 0 ? fewest : plates.told[what - 1];
    }

    public int alike() {
        int twos = 0;
        for (int lane = 0; lane < town.lanes; lane++) {
            for (int later = lane + 1; later < town.lanes; later++) {
                if (town.names[lane] != NONE && town.names[lane] == town.names[later]
                        && town.doMeet(lane, later)) {
                    twos++;
                }
            }
        }
        return twos;
    }

    public int round() {
        ways.measure(town);
        if (!ways.hangTogether(ways.cornersWithLanes(town))) {
            return NONE;
        }
        int sum = 0;
        int odd = 0;
        for (int lane = 0; lane < town.lanes; lane++) {
            sum += town.lengths[lane];
            odd ^= 1 << town.ones[lane] ^ 1 << town.others[lane];
        }
        return sum + ways.cheapestPairs(odd);
    }

    public int dead() {
        int once = 0;
        int oftener = 0;
        for (int lane = 0; lane < town.lanes; lane++) {
            int ends = 1 << town.ones[lane] | 1 << town.others[lane];
            oftener |= once & ends;
            once |= ends;
        }
        return once & ~oftener;
    }

    public long few(int k, int n) {
        if (k < 1 || k > MOST_FEW || n < 0 || n > MOST_CRIERS) {
            return NONE;
        }
        Arrays.fill(chances, 0);
        chances[0] = ALL_PARTS;
        long cries = town.terms[CRIES];
        for (int child = 0; child < n; child++) {
            // Downwards, so that the part for one fewer is still that of the child before.
            for (int did = k - 1; did > 0; did--) {
                chances[did] = chances[did] * (10 - cries) / 10 + chances[did - 1] * cries / 10;
            }
            chances[0] = chances[0] * (10 - cries) / 10;
        }
        long together = 0;
        for (int did = 0; did < k; did++) {
            together += chances[did];
        }
        return together;
    }

    public int compare(int law, int child) {
        if (law != NONE && !town.hasLaw(law) || !town.hasChild(child)) {
            return NONE;
        }
        int lane = wits.laneTaken(town, town.lawOf(law), child);
        int corner = town.corners[child];
        return lane == NONE ? corner : town.endBeyond(lane, corner);
    }

    public int decades(int seed, int n) {
        if (seed < 0 || seed > 1000000 || n < 1 || n > LONGEST_LOOK) {
            return refuse(NO_NUMBER);
        }
        if (town.children == 0) {
            return refuse(CANNOT);
        }
        decade.become(town);
        int s = seed;
        for (int i = 0; i < n && decade.terms[HOUR] < LAST_HOUR; i++) {
            s = nextDraw(s);
            int child = s % Math.max(1, decade.children);
            s = nextDraw(s);
            int corner = s % CORNERS;
            s = nextDraw(s);
            int what = s % 4;
            if (what == 0 || what == 1) {
                cryIn(decade, child);
            } else if (what == 2) {
                leadIn(decade, child, corner);
            }
            passIn(decade);
        }
        return accept(decade.namedLanes());
    }

    public int drawn(int k, int what) {
        if (what == 0 && decade.hasChild(k)) {
            return decade.corners[k];
        }
        if (what == 1 && decade.hasLane(k)) {
            return decade.names[k];
        }
        return NONE;
    }

    public int image(int k) {
        if (k < 0 || k >= images.length) {
            return refuse(NO_NUMBER);
        }
        Town kept = images[k];
        if (kept == null) {
            kept = new Town();
            images[k] = kept;
        }
        kept.become(town);
        return accept(0);
    }

    public int back(int k) {
        if (k < 0 || k >= images.length) {
            return refuse(NO_NUMBER);
        }
        Town kept = images[k];
        if (kept == null) {
            return refuse(NO_SUCH);
        }
        town.become(kept);
        log.size = 0;
        return accept(0);
    }

    public int count(int what) {
        switch (what) {
            case 0:
                return town.lanes;
            case 1:
                return town.children;
            case 2:
                return town.namedLanes();
            case 3:
                return town.heardCount;
            case 4:
                return town.lawCount;
            case 5:
                return log.size;
            case 6:
                return tape.length;
            case 7:
                return refusals[-NO_NUMBER];
            case 8:
                return refusals[-NO_SUCH];
            case 9:
                return refusals[-CANNOT];
            case 10:
                return refusals[-NO_ROOM];
            case 11:
                return refusals[-NO_TEXT];
            case 12:
                return town.force;
            case 13:
                return town.terms[HOUR];
            case 14:
                return town.terms[CRIES];
            case 15:
                return town.terms[MOOD];
            default:
                return NONE;
        }
    }

    public int status() {
        return latestStatus;
    }

    private int accept(int told) {
        latestStatus = 0;
        return told;
    }

    private int refuse(int by) {
        latestStatus = by;
        int place = -by;
        if (place >= 0 && place < refusals.length) {
            refusals[place]++;
        }
        return by;
    }

    /** For calls that tell nothing below 0 unless they are refused. */
    private int answer(int told) {
        return told < 0 ? refuse(told) : accept(told);
    }

    private boolean layLane(int from) {
        if (from < 0 || from + 4 > tape.length || town.lanes >= MOST_LANES) {
            return false;
        }
        int one = tape.bytes[from];
        int other = tape.bytes[from + 1];
        int length = tape.bytes[from + 2];
        int sight = tape.bytes[from + 3];
        if (!canBeLane(one, other, length, sight)) {
            return false;
        }
        town.addLane(one, other, length, sight);
        return true;
    }

    /** Runs a clause of orders once; false if it can't be. */
    private boolean obey(Script script, Clause clause) {
        noteOrderWords();
        if (clause.hasTest()
                && reckoner.reckon(script.code, clause.secondEnd, clause.testEnd, orderWords) != 1) {
            return true;
        }
        int child = reckoner.reckon(script.code, clause.begin, clause.firstEnd, orderWords);
        int corner = reckoner.reckon(script.code, clause.firstEnd, clause.secondEnd, orderWords);
        if (child == BROKEN || corner == BROKEN) {
            return false;
        }
        int told = act(clause.kind, child, corner);
        if (told < 0) {
            return false;
        }
        orderWords[DONE_WORD]++;
        if (clause.kind == CRY) {
            orderWords[LATEST_WORD] = told;
        }
        return true;
    }

    /** All words of orders but "done" and "latest", which obey() keeps. */
    private void noteOrderWords() {
        orderWords[0] = town.terms[HOUR];
        orderWords[3] = town.namedLanes();
        orderWords[4] = town.children;
        for (int child = 0; child < MOST_CHILDREN; child++) {
            orderWords[AT_WORD + child] = town.hasChild(child) ? town.corners[child] : NONE;
        }
        for (int lane = 0; lane < MOST_LANES; lane++) {
            orderWords[PLATE_WORDS + lane] = town.hasLane(lane) ? town.names[lane] : NONE;
        }
    }

    private int giveUp(int clause) {
        town.become(before);
        log.become(logBefore);
        stoppedAt = clause;
        return refuse(CANNOT);
    }

    /** Wanders, cries, leads or passes and logs it; what it tells, or what refuses it (nothing is done then). */
    private int act(int kind, int child, int corner) {
        log.note(town);
        int told;
        if (kind == WANDER) {
            told = wanderIn(town, child);
        } else if (kind == CRY) {
            told = cryIn(town, child);
        } else if (kind == LEAD) {
            told = leadIn(town, child, corner);
        } else {
            told = passIn(town);
        }
        if (told >= 0) {
            log.keepNote(kind);
        }
        return told;
    }

    private int wanderIn(Town place, int child) {
        if (!place.hasChild(child)) {
            return NO_SUCH;
        }
        int lane = wits.laneTaken(place, place.lawInForce(), child);
        if (lane == NONE) {
            return CANNOT;
        }
        place.goAlong(child, lane);
        return place.corners[child];
    }

    private int cryIn(Town place, int child) {
        if (!place.hasChild(child)) {
            return NO_SUCH;
        }
        int lane = place.lasts[child];
        if (!place.hasLane(lane)) {
            return CANNOT;
        }
        place.names[lane] = wits.nameSaid(place, child, lane);
        return place.names[lane];
    }

    private int leadIn(Town place, int child, int corner) {
        if (!isCorner(corner)) {
            return NO_NUMBER;
        }
        if (!place.hasChild(child)) {
            return NO_SUCH;
        }
        int was = place.corners[child];
        if (was == corner) {
            return CANNOT;
        }
        place.corners[child] = corner;
        return was;
    }

    private int passIn(Town place) {
        if (place.terms[HOUR] >= LAST_HOUR) {
            return CANNOT;
        }
        int went = 0;
        // No law tells a child of another one, so each may go before the next is asked.
        for (int child = 0; child < place.children; child++) {
            int lane = wits.laneTaken(place, place.lawInForce(), child);
            if (lane != NONE) {
                place.goAlong(child, lane);
                went++;
            }
        }
        place.terms[HOUR]++;
        return went;
    }

    private static int nextDraw(int s) {
        return (int) ((s * 1103L + 12345) % 1000003);
    }

    private static boolean isCorner(int corner) {
        return corner >= 0 && corner < CORNERS;
    }

    private static boolean isName(int name) {
        return name >= 0 && name < NAMES;
    }

    private static boolean canBeLane(int one, int other, int length, int sight) {
        return isCorner(one) && isCorner(other) && one != other
                && length >= 1 && length <= 9 && sight >= 0 && sight <= 4;
    }

    /** All that an image keeps. */
    private static final class Town {
        final int[] ones = new int[MOST_LANES];
        final int[] others = new int[MOST_LANES];
        final int[] lengths = new int[MOST_LANES];
        final int[] sights = new int[MOST_LANES];
        final int[] names = new int[MOST_LANES];
        int lanes;
        final int[] ages = new int[MOST_CHILDREN];
        final int[] corners = new int[MOST_CHILDREN];
        final int[] lasts = new int[MOST_CHILDREN];
        int children;
        final int[] heard = new int[MOST_HEARD];
        int heardCount;
        final int[] terms = {0, 1, 0};
        final Script[] laws = new Script[MOST_LAWS];
        int lawCount;
        int force = NONE;

        boolean hasLane(int lane) {
            return lane >= 0 && lane < lanes && lane < MOST_LANES;
        }

        boolean hasChild(int child) {
            return child >= 0 && child < children && child < MOST_CHILDREN;
        }

        boolean hasLaw(int law) {
            return law >= 0 && law < lawCount && law < MOST_LAWS;
        }

        /** The law of that number, null for none. */
        Script lawOf(int law) {
            return hasLaw(law) ? laws[law] : null;
        }

        Script lawInForce() {
            return lawOf(force);
        }

        int addLane(int one, int other, int length, int sight) {
            if (lanes >= MOST_LANES) {
                return NONE;
            }
            ones[lanes] = one;
            others[lanes] = other;
            lengths[lanes] = length;
            sights[lanes] = sight;
            names[lanes] = NONE;
            lanes++;
            return lanes - 1;
        }

        int addChild(int age, int corner) {
            if (children >= MOST_CHILDREN) {
                return NONE;
            }
            ages[children] = age;
            corners[children] = corner;
            lasts[children] = NONE;
            children++;
            return children - 1;
        }

        boolean isEnd(int lane, int corner) {
            return hasLane(lane) && (ones[lane] == corner || others[lane] == corner);
        }

        int endBeyond(int lane, int corner) {
            if (!isEnd(lane, corner)) {
                return corner;
            }
            return ones[lane] == corner ? others[lane] : ones[lane];
        }

        boolean doMeet(int lane, int other) {
            return hasLane(lane) && (isEnd(other, ones[lane]) || isEnd(other, others[lane]));
        }

        void goAlong(int child, int lane) {
            if (hasChild(child)) {
                corners[child] = endBeyond(lane, corners[child]);
                lasts[child] = lane;
            }
        }

        int namedLanes() {
            int named = 0;
            for (int lane = 0; lane < lanes; lane++) {
                if (hasLane(lane) && names[lane] != NONE) {
                    named++;
                }
            }
            return named;
        }

        void become(Town from) {
            System.arraycopy(from.ones, 0, ones, 0, MOST_LANES);
            System.arraycopy(from.others, 0, others, 0, MOST_LANES);
            System.arraycopy(from.lengths, 0, lengths, 0, MOST_LANES);
            System.arraycopy(from.sights, 0, sights, 0, MOST_LANES);
            System.arraycopy(from.names, 0, names, 0, MOST_LANES);
            lanes = from.lanes;
            System.arraycopy(from.ages, 0, ages, 0, MOST_CHILDREN);
            System.arraycopy(from.corners, 0, corners, 0, MOST_CHILDREN);
            System.arraycopy(from.lasts, 0, lasts, 0, MOST_CHILDREN);
            children = from.children;
            System.arraycopy(from.heard, 0, heard, 0, MOST_HEARD);
            heardCount = from.heardCount;
            System.arraycopy(from.terms, 0, terms, 0, terms.length);
            for (int law = 0; law < MOST_LAWS; law++) {
                laws[law] = from.laws[law];
            }
            lawCount = from.lawCount;
            force = from.force;
        }
    }

    /** The latest 16 steps, each as the kind and what it can change as that was ahead of it. */
    private static final class Log {
        static final int MOST = 16;
        static final int WIDTH = 2 + 2 * MOST_CHILDREN + MOST_LANES;

        final int[] rows = new int[MOST * WIDTH];
        /** Row that is kept only if the step is not refused. */
        final int[] note = new int[WIDTH];
        int size;

        void note(Town town) {
            note[1] = town.terms[HOUR];
            System.arraycopy(town.corners, 0, note, 2, MOST_CHILDREN);
            System.arraycopy(town.lasts, 0, note, 2 + MOST_CHILDREN, MOST_CHILDREN);
            System.arraycopy(town.names, 0, note, 2 + 2 * MOST_CHILDREN, MOST_LANES);
        }

        void keepNote(int kind) {
            if (size >= MOST) {
                System.arraycopy(rows, WIDTH, rows, 0, (MOST - 1) * WIDTH);
                size = MOST - 1;
            }
            note[0] = kind;
            System.arraycopy(note, 0, rows, size * WIDTH, WIDTH);
            size++;
        }

        int takeBack(Town town) {
            if (size <= 0) {
                return NONE;
            }
            size--;
            int from = size * WIDTH;
            town.terms[HOUR] = rows[from + 1];
            System.arraycopy(rows, from + 2, town.corners, 0, MOST_CHILDREN);
            System.arraycopy(rows, from + 2 + MOST_CHILDREN, town.lasts, 0, MOST_CHILDREN);
            System.arraycopy(rows, from + 2 + 2 * MOST_CHILDREN, town.names, 0, MOST_LANES);
            return rows[from];
        }

        void become(Log from) {
            System.arraycopy(from.rows, 0, rows, 0, rows.length);
            size = from.size;
        }
    }

    private static final class Tape {
        final int[] bytes = new int[MOST_BYTES];
        int length;

        void addFour(int number) {
            for (int shift = 24; shift >= 0 && length < MOST_BYTES; shift -= 8) {
                bytes[length] = number >>> shift & 255;
                length++;
            }
        }
    }

    /** A clause's kind, and where its code stands: the first sum, then the second one, then the test. */
    private static final class Clause {
        final int kind;
        final int begin;
        int firstEnd;
        int secondEnd;
        int testEnd;
        int times = 1;

        Clause(int kind, int begin) {
            this.kind = kind;
            this.begin = begin;
        }

        boolean hasTest() {
            return testEnd > secondEnd;
        }
    }

    /** A text that was read: its clauses and their code, pairs of a deed and a number, for a Reckoner. */
    private static final class Script {
        static final int MOST = 12;

        final Clause[] clauses = new Clause[MOST];
        int size;
        int[] code = {};

        void add(Clause clause) {
            if (size < MOST) {
                clauses[size] = clause;
                size++;
            }
        }
    }

    /** Has the tape, and reads it as a text of either language. */
    private static final class Reader {
        static final int MOST_PARTS = 50;
        static final int MOST_BRACKETS = 8;
        static final int MOST_NUMBER = 1000;
        static final int MOST_TIMES = 20;

        static final int END = 0;
        static final int WORD = 1;
        static final int DIGITS = 2;
        static final int SIGN = 3;

        final Tape tape = new Tape();
        /** Each token makes one deed at most. */
        final int[] code = new int[2 * MOST_BYTES];
        int size;
        boolean asLaw;
        int token;
        int start;
        int next;
        int number;
        int parts;
        int brackets;
        /** Where the latest text that was read could not go on. */
        int faultAt = NONE;

        /** The script, or null with the fault's place in faultAt. */
        Script read(boolean readAsLaw) {
            asLaw = readAsLaw;
            size = 0;
            next = 0;
            parts = 0;
            brackets = 0;
            faultAt = NONE;
            advance();
            Script script = new Script();
            for (int n = 0; n < Script.MOST; n++) {
                if (!clause(script)) {
                    return null;
                }
                if (token == END) {
                    script.code = Arrays.copyOf(code, size);
                    return script;
                }
                if (!isSign(';')) {
                    fail();
                    return null;
                }
                advance();
            }
            fail();
            return null;
        }

        boolean clause(Script script) {
            int kind = choice(asLaw ? LAW_KINDS : ORDER_KINDS);
            if (kind == NONE) {
                return fail();
            }
            advance();
            Clause clause = new Clause(kind, size);
            if (kind != (asLaw ? BARS : PASS) && !sum()) {
                return false;
            }
            clause.firstEnd = size;
            if (!asLaw && kind == LEAD && !(isKeyword("to") && sum())) {
                return fail();
            }
            clause.secondEnd = size;
            if (!asLaw && isKeyword("times")) {
                if (!isNumber(1, MOST_TIMES)) {
                    return fail();
                }
                clause.times = number;
                advance();
            }
            if (isKeyword("if") && !test()) {
                return false;
            }
            clause.testEnd = size;
            script.add(clause);
            return true;
        }

        boolean test() {
            if (!both()) {
                return false;
            }
            for (int n = 0; n < MOST_BYTES && isKeyword("or"); n++) {
                int jump = emit(Reckoner.OR, 0);
                if (!both()) {
                    return false;
                }
                land(jump);
            }
            return true;
        }

        boolean both() {
            if (!plain()) {
                return false;
            }
            for (int n = 0; n < MOST_BYTES && isKeyword("and"); n++) {
                int jump = emit(Reckoner.AND, 0);
                if (!plain()) {
                    return false;
                }
                land(jump);
            }
            return true;
        }

        boolean plain() {
            boolean turned = false;
            for (int n = 0; n < MOST_BYTES && isKeyword("not"); n++) {
                turned = !turned;
            }
            if (isSign('(')) {
                if (!opens() || !test() || !closes(')')) {
                    return false;
                }
            } else {
                if (!sum()) {
                    return false;
                }
                int deed = isSign('<') ? Reckoner.LESS : isSign('>') ? Reckoner.MORE : Reckoner.SAME;
                if (deed == Reckoner.SAME && !isSign('=')) {
                    return fail();
                }
                advance();
                if (!sum()) {
                    return false;
                }
                emit(deed, 0);
            }
            if (turned) {
                emit(Reckoner.NOT, 0);
            }
            return true;
        }

        boolean sum() {
            if (!term()) {
                return false;
            }
            for (int n = 0; n < MOST_BYTES && (isSign('+') || isSign('-')); n++) {
                int deed = isSign('+') ? Reckoner.PLUS : Reckoner.MINUS;
                advance();
                if (!term()) {
                    return false;
                }
                emit(deed, 0);
            }
            return true;
        }

        boolean term() {
            if (!part()) {
                return false;
            }
            for (int n = 0; n < MOST_BYTES && (isSign('*') || isSign('/') || isSign('%')); n++) {
                int deed = isSign('*') ? Reckoner.TIMES : isSign('/') ? Reckoner.OVER : Reckoner.LEFT;
                advance();
                if (!part()) {
                    return false;
                }
                emit(deed, 0);
            }
            return true;
        }

        boolean part() {
            if (isSign('[')) {
                return opens() && sum() && closes(']');
            }
            if (parts >= MOST_PARTS) {
                return fail();
            }
            parts++;
            if (token == DIGITS) {
                if (!isNumber(0, MOST_NUMBER)) {
                    return fail();
                }
                emit(Reckoner.NUMBER, number);
                advance();
                return true;
            }
            int word = choice(asLaw ? LAW_WORDS : ORDER_WORDS);
            if (word == NONE) {
                return fail();
            }
            advance();
            if (!asLaw && word >= AT_WORD) {
                return numberedWord(word == AT_WORD);
            }
            emit(Reckoner.WORD, word);
            return true;
        }

        /** The number behind "at" or "plate", which makes one word with it. */
        boolean numberedWord(boolean isAt) {
            if (!isNumber(0, isAt ? MOST_CHILDREN - 1 : MOST_LANES - 1)) {
                return fail();
            }
            emit(Reckoner.WORD, (isAt ? AT_WORD : PLATE_WORDS) + number);
            advance();
            return true;
        }

        boolean opens() {
            if (brackets >= MOST_BRACKETS) {
                return fail();
            }
            brackets++;
            advance();
            return true;
        }

        boolean closes(char sign) {
            if (!isSign(sign)) {
                return fail();
            }
            brackets--;
            advance();
            return true;
        }

        /** Where the deed stands. */
        int emit(int deed, int number) {
            int place = size;
            if (size + 1 < code.length) {
                code[size] = deed;
                code[size + 1] = number;
                size += 2;
            }
            return place;
        }

        /** The jump at that place leads to what comes next. */
        void land(int jump) {
            if (jump >= 0 && jump + 1 < size) {
                code[jump + 1] = size;
            }
        }

        /** The token at hand is the fault, unless one was found ahead of it. */
        boolean fail() {
            if (faultAt == NONE) {
                faultAt = start;
            }
            return false;
        }

        boolean isSign(char sign) {
            return token == SIGN && byteAt(start) == sign;
        }

        boolean isNumber(int least, int most) {
            return token == DIGITS && number >= least && number <= most;
        }

        /** Whether the token is that word; then it is left behind. */
        boolean isKeyword(String word) {
            if (choice(word) == NONE) {
                return false;
            }
            advance();
            return true;
        }

        /** Which of these words, parted by blanks, the token is. */
        int choice(String words) {
            if (token != WORD) {
                return NONE;
            }
            int which = 0;
            int place = start;
            boolean same = true;
            for (int i = 0; i <= words.length(); i++) {
                if (i == words.length() || words.charAt(i) == ' ') {
                    if (same && place == next) {
                        return which;
                    }
                    which++;
                    place = start;
                    same = true;
                } else {
                    same = same && place < next && byteAt(place) == words.charAt(i);
                    place++;
                }
            }
            return NONE;
        }

        int byteAt(int place) {
            return place >= 0 && place < tape.length && place < MOST_BYTES ? tape.bytes[place] : NONE;
        }

        static boolean isLetter(int sign) {
            return sign >= 'a' && sign <= 'z';
        }

        static boolean isDigit(int sign) {
            return sign >= '0' && sign <= '9';
        }

        void advance() {
            while (next < tape.length && byteAt(next) == ' ') {
                next++;
            }
            start = next;
            if (next >= tape.length) {
                token = END;
            } else if (isLetter(byteAt(next))) {
                token = WORD;
                while (next < tape.length && isLetter(byteAt(next))) {
                    next++;
                }
            } else if (isDigit(byteAt(next))) {
                token = DIGITS;
                number = 0;
                while (next < tape.length && isDigit(byteAt(next))) {
                    // Held just beyond the most, so that a long row of digits does not wrap.
                    number = Math.min(number * 10 + byteAt(next) - '0', MOST_NUMBER + 1);
                    next++;
                }
            } else {
                token = SIGN;
                next++;
            }
        }
    }

    /** Works out the code of sums and tests. */
    private static final class Reckoner {
        static final int NUMBER = 0;
        static final int WORD = 1;
        static final int PLUS = 2;
        static final int MINUS = 3;
        static final int TIMES = 4;
        static final int OVER = 5;
        static final int LEFT = 6;
        static final int LESS = 7;
        static final int MORE = 8;
        static final int SAME = 9;
        static final int NOT = 10;
        static final int AND = 11;
        static final int OR = 12;
        static final long MOST = 1000000000L;

        /** A text has 50 parts at most, so that no more can wait here. */
        final int[] waiting = new int[Reader.MOST_PARTS + 2];

        /** A sum's number, a test's 1 or 0, 0 if there is no code; or BROKEN. */
        int reckon(int[] code, int from, int to, int[] words) {
            // waiting[0] lies below all, so that the top is always there.
            int top = 0;
            waiting[0] = 0;
            int stop = Math.min(to, code.length);
            for (int at = Math.max(from, 0); at + 1 < stop; at += 2) {
                int deed = code[at];
                int number = code[at + 1];
                if (deed == NUMBER || deed == WORD) {
                    if (top + 1 >= waiting.length || deed == WORD && (number < 0 || number >= words.length)) {
                        return BROKEN;
                    }
                    top++;
                    waiting[top] = deed == NUMBER ? number : words[number];
                } else if (deed == NOT) {
                    waiting[top] = 1 - waiting[top];
                } else if (top < 1) {
                    return BROKEN;
                } else if (deed == AND || deed == OR) {
                    if (waiting[top] == (deed == OR ? 1 : 0)) {
                        at = Math.max(at, number - 2);
                    } else {
                        top--;
                    }
                } else {
                    top--;
                    waiting[top] = combine(deed, waiting[top], waiting[top + 1]);
                    if (waiting[top] == BROKEN) {
                        return BROKEN;
                    }
                }
            }
            return waiting[top];
        }

        static int combine(int deed, long left, long right) {
            long told;
            switch (deed) {
                case PLUS:
                    told = left + right;
                    break;
                case MINUS:
                    told = left - right;
                    break;
                case TIMES:
                    told = left * right;
                    break;
                case LESS:
                    return left < right ? 1 : 0;
                case MORE:
                    return left > right ? 1 : 0;
                case SAME:
                    return left == right ? 1 : 0;
                default:
                    if (right == 0) {
                        return BROKEN;
                    }
                    told = deed == OVER ? left / right : left % right;
                    break;
            }
            return told > MOST || told < -MOST ? BROKEN : (int) told;
        }
    }

    /** What children do by a law (null: none). */
    private static final class Wits {
        static final int MOST_TURN = 99;

        final Reckoner reckoner = new Reckoner();
        final Town paper = new Town();
        final int[] words = new int[LAW_WORD_COUNT];
        final int[] free = new int[MOST_LANES];
        /** Corners of the child that was followed, by hours from now. */
        final int[] track = new int[LONGEST_LOOK + 1];

        int turnOf(Town town, Script law, int child) {
            look(town, child, NONE);
            return tell(law, TURNS, MOST_TURN, 0);
        }

        int nameSaid(Town town, int child, int lane) {
            look(town, child, lane);
            return tell(town.lawInForce(), SAYS, NAMES - 1, town.hasLane(lane) ? town.sights[lane] : 0);
        }

        boolean isBarred(Town town, Script law, int child, int lane) {
            if (law == null) {
                return false;
            }
            look(town, child, lane);
            for (int i = 0; i < law.size; i++) {
                Clause clause = law.clauses[i];
                if (clause != null && clause.kind == BARS && (!clause.hasTest()
                        || reckoner.reckon(law.code, clause.secondEnd, clause.testEnd, words) == 1)) {
                    return true;
                }
            }
            return false;
        }

        /** The lane along which the child would wander by that law, or NONE. */
        int laneTaken(Town town, Script law, int child) {
            if (!town.hasChild(child)) {
                return NONE;
            }
            int many = 0;
            for (int lane = 0; lane < town.lanes && many < free.length; lane++) {
                if (town.isEnd(lane, town.corners[child]) && !isBarred(town, law, child, lane)) {
                    free[many] = lane;
                    many++;
                }
            }
            if (many == 0) {
                return NONE;
            }
            look(town, child, NONE);
            int which = tell(law, TURNS, MOST_TURN, 0) % many;
            return which >= 0 && which < many ? free[which] : NONE;
        }

        /** Writes the track of that child for so many hours, nothing else being done. */
        void follow(Town town, int child, int hours) {
            if (!town.hasChild(child)) {
                return;
            }
            paper.become(town);
            track[0] = paper.corners[child];
            for (int n = 1; n <= hours && n < track.length; n++) {
                int lane = laneTaken(paper, paper.lawInForce(), child);
                if (lane != NONE) {
                    paper.goAlong(child, lane);
                }
                paper.terms[HOUR]++;
                track[n] = paper.corners[child];
            }
        }

        /** Puts the words as they are for a child and a lane (NONE: asked of the child at its corner). */
        private void look(Town town, int child, int lane) {
            boolean ofLane = town.hasLane(lane);
            boolean ofChild = town.hasChild(child);
            words[0] = child;
            words[1] = ofChild ? town.ages[child] : NONE;
            words[2] = ofLane ? lane : NONE;
            words[3] = ofLane ? town.lengths[lane] : NONE;
            words[4] = ofLane ? town.sights[lane] : NONE;
            words[5] = ofChild ? town.corners[child] : NONE;
            words[6] = ofChild ? town.lasts[child] : NONE;
            words[7] = town.terms[HOUR];
            words[8] = town.terms[MOOD];
        }

        /** What the last clause of that kind that holds tells, within 0 .. most. */
        private int tell(Script law, int kind, int most, int without) {
            if (law == null) {
                return without;
            }
            for (int i = Math.min(law.size, Script.MOST) - 1; i >= 0; i--) {
                Clause clause = law.clauses[i];
                if (clause != null && clause.kind == kind && (!clause.hasTest()
                        || reckoner.reckon(law.code, clause.secondEnd, clause.testEnd, words) == 1)) {
                    int told = reckoner.reckon(law.code, clause.begin, clause.firstEnd, words);
                    if (told != BROKEN) {
                        return Math.max(0, Math.min(most, told));
                    }
                }
            }
            return without;
        }
    }

    /** Distances, and what is found by them. */
    private static final class Ways {
        static final int SETS = 1 << CORNERS;

        /** Rows of corners, one behind the other: the shortest lane between two, the shortest way. */
        final int[] steps = new int[CORNERS * CORNERS];
        final int[] shortest = new int[CORNERS * CORNERS];
        final int[] near = new int[CORNERS];
        final int[] pairs = new int[SETS];
        /** By corners: in how many hours the last of the children is found from there. */
        final int[] slowest = new int[CORNERS];

        void measure(Town town) {
            Arrays.fill(steps, FAR_OFF);
            for (int lane = 0; lane < town.lanes; lane++) {
                int there = town.ones[lane] * CORNERS + town.others[lane];
                int back = town.others[lane] * CORNERS + town.ones[lane];
                if (isPlace(there) && isPlace(back)) {
                    steps[there] = Math.min(steps[there], town.lengths[lane]);
                    steps[back] = steps[there];
                }
            }
            System.arraycopy(steps, 0, shortest, 0, shortest.length);
            for (int corner = 0; corner < CORNERS; corner++) {
                shortest[corner * CORNERS + corner] = 0;
            }
            for (int over = 0; over < CORNERS; over++) {
                shorten(over);
            }
        }

        private void shorten(int over) {
            for (int from = 0; from < CORNERS; from++) {
                int first = between(from, over);
                for (int to = 0; first < FAR_OFF && to < CORNERS; to++) {
                    int way = first + between(over, to);
                    if (way < between(from, to)) {
                        shortest[from * CORNERS + to] = way;
                    }
                }
            }
        }

        private static boolean isPlace(int place) {
            return place >= 0 && place < CORNERS * CORNERS;
        }

        /** FAR_OFF or more without a way. */
        int between(int from, int to) {
            return isCorner(from) && isCorner(to) ? shortest[from * CORNERS + to] : FAR_OFF;
        }

        int cornersWithLanes(Town town) {
            int set = 0;
            for (int lane = 0; lane < town.lanes; lane++) {
                set |= 1 << town.ones[lane] | 1 << town.others[lane];
            }
            return set;
        }

        /** The least hour in which one from the corner can be where the track is; FAR_OFF without. */
        int meets(int corner, int[] track) {
            for (int n = 0; n < track.length; n++) {
                if (between(corner, track[n]) <= n) {
                    return n;
                }
            }
            return FAR_OFF;
        }

        void slow(int[] track) {
            for (int corner = 0; corner < CORNERS; corner++) {
                slowest[corner] = Math.max(slowest[corner], meets(corner, track));
            }
        }

        int quickest() {
            int best = 0;
            for (int corner = 1; corner < CORNERS; corner++) {
                if (slowest[corner] < slowest[best]) {
                    best = corner;
                }
            }
            return best;
        }

        int fewestPosts(int most, int wanted) {
            for (int corner = 0; corner < CORNERS; corner++) {
                near[corner] = cornersWithin(most, corner);
            }
            int best = SETS - 1;
            for (int set = 0; set < SETS; set++) {
                if (Integer.bitCount(set) < Integer.bitCount(best) && doCover(set, wanted)) {
                    best = set;
                }
            }
            return best;
        }

        private int cornersWithin(int most, int from) {
            int set = 0;
            for (int to = 0; to < CORNERS; to++) {
                if (between(from, to) <= most) {
                    set |= 1 << to;
                }
            }
            return set;
        }

        private boolean doCover(int posts, int wanted) {
            int covered = 0;
            for (int corner = 0; corner < CORNERS; corner++) {
                if ((posts >> corner & 1) == 1) {
                    covered |= near[corner];
                }
            }
            return (wanted & ~covered) == 0;
        }

        /** The lowest lane of that name an end of which is as near as any's; NONE if none can be come to. */
        int nearestNamed(Town town, int from, int name) {
            int best = NONE;
            int least = FAR_OFF;
            for (int lane = 0; lane < town.lanes; lane++) {
                if (town.names[lane] == name) {
                    int far = Math.min(between(from, town.ones[lane]), between(from, town.others[lane]));
                    if (far < least) {
                        least = far;
                        best = lane;
                    }
                }
            }
            return best;
        }

        int nearerEnd(Town town, int from, int lane) {
            if (!town.hasLane(lane)) {
                return from;
            }
            int low = Math.min(town.ones[lane], town.others[lane]);
            int high = Math.max(town.ones[lane], town.others[lane]);
            return between(from, high) < between(from, low) ? high : low;
        }

        /** The i-th corner behind from on the first of the shortest ways; NONE if it has not so many. */
        int cornerOnWay(int from, int goal, int i) {
            int corner = from;
            for (int n = 0; n < CORNERS && corner != goal && corner != NONE; n++) {
                corner = nextOnWay(corner, goal);
                if (n == i) {
                    return corner;
                }
            }
            return NONE;
        }

        private int nextOnWay(int from, int goal) {
            for (int to = 0; to < CORNERS; to++) {
                int step = isCorner(from) ? steps[from * CORNERS + to] : FAR_OFF;
                if (step < FAR_OFF && step + between(to, goal) == between(from, goal)) {
                    return to;
                }
            }
            return NONE;
        }

        /** CORNERS, if the set is empty. */
        private static int lowestOf(int set) {
            int corner = 0;
            while (corner < CORNERS && (set >> corner & 1) == 0) {
                corner++;
            }
            return corner;
        }

        boolean hangTogether(int set) {
            int first = lowestOf(set);
            for (int corner = 0; corner < CORNERS; corner++) {
                if ((set >> corner & 1) == 1 && between(first, corner) >= FAR_OFF) {
                    return false;
                }
            }
            return true;
        }

        /** The least sum of ways by which the corners of a set, an even number of them, are put in twos. */
        int cheapestPairs(int set) {
            pairs[0] = 0;
            for (int some = 1; some < SETS; some++) {
                if ((some & ~set) == 0) {
                    pairs[some] = cheapestWithLowest(some);
                }
            }
            return set >= 0 && set < SETS ? pairs[set] : 0;
        }

        private int cheapestWithLowest(int set) {
            int least = FAR_OFF;
            int lowest = lowestOf(set);
            for (int mate = lowest + 1; mate < CORNERS; mate++) {
                int rest = set & ~(1 << lowest | 1 << mate);
                if ((set >> mate & 1) == 1 && rest >= 0 && rest < SETS) {
                    least = Math.min(least, between(lowest, mate) + pairs[rest]);
                }
            }
            return least;
        }
    }

    /** What is asked of names. */
    private static final class Plates {
        final int[] told = new int[MOST_LANES];
        /** By corners: how many ways from one beginning end there. */
        final int[] arrived = new int[CORNERS];
        final int[] further = new int[CORNERS];
        int trails;
        int begins;
        int finishes;

        /** The fewest names that tell lanes apart; the first row of them is in told then. */
        int tellApart(Town town) {
            for (int most = 0; most < MOST_LANES; most++) {
                if (paint(town, 0, 0, most)) {
                    return most;
                }
            }
            paint(town, 0, 0, MOST_LANES);
            return MOST_LANES;
        }

        /** A name not used yet is tried once only: others not used yet would come to the same. */
        private boolean paint(Town town, int lane, int used, int most) {
            if (lane >= town.lanes || lane >= MOST_LANES) {
                return true;
            }
            for (int name = 0; name <= used && name < most; name++) {
                if (isFree(town, lane, name)) {
                    told[lane] = name;
                    if (paint(town, lane + 1, Math.max(used, name + 1), most)) {
                        return true;
                    }
                }
            }
            return false;
        }

        private boolean isFree(Town town, int lane, int name) {
            for (int earlier = 0; earlier < lane && earlier < MOST_LANES; earlier++) {
                if (told[earlier] == name && town.doMeet(earlier, lane)) {
                    return false;
                }
            }
            return true;
        }

        /** Counts the ways by the names that were heard, and where they begin and end. */
        void retrace(Town town) {
            trails = 0;
            begins = 0;
            finishes = 0;
            for (int begin = 0; begin < CORNERS; begin++) {
                Arrays.fill(arrived, 0);
                arrived[begin] = 1;
                for (int i = 0; i < town.heardCount && i < MOST_HEARD; i++) {
                    goOn(town, town.heard[i]);
                }
                for (int corner = 0; corner < CORNERS; corner++) {
                    if (arrived[corner] > 0) {
                        trails += arrived[corner];
                        begins |= 1 << begin;
                        finishes |= 1 << corner;
                    }
                }
            }
        }

        private void goOn(Town town, int name) {
            Arrays.fill(further, 0);
            for (int lane = 0; lane < town.lanes; lane++) {
                int one = town.ones[lane];
                int other = town.others[lane];
                if (town.names[lane] == name && isCorner(one) && isCorner(other)) {
                    further[other] += arrived[one];
                    further[one] += arrived[other];
                }
            }
            System.arraycopy(further, 0, arrived, 0, CORNERS);
        }
    }
}
