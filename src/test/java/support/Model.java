import java.util.ArrayList;
import java.util.Arrays;
import java.util.List;

/**
 * A second program by the same document, plain and slow: trees that are walked, whole states that are copied,
 * ways that are tried one by one. It shares no code with the class.
 */
final class Model {
    record Lane(int one, int other, int length, int sight) {
        boolean touches(int c) {
            return one == c || other == c;
        }

        int across(int c) {
            return one == c ? other : one;
        }

        boolean meets(Lane l) {
            return touches(l.one) || touches(l.other);
        }
    }

    /** Movable and kept state; copied whole. */
    static final class State {
        List<Lane> lanes = new ArrayList<>();
        List<Integer> names = new ArrayList<>();
        List<Integer> ages = new ArrayList<>();
        List<Integer> corners = new ArrayList<>();
        List<Integer> lasts = new ArrayList<>();
        List<Integer> heard = new ArrayList<>();
        List<ModelText> laws = new ArrayList<>();
        int force = -1;
        int hour;
        int cries = 1;
        int mood;

        State copy() {
            State s = new State();
            s.lanes.addAll(lanes);
            s.names.addAll(names);
            s.ages.addAll(ages);
            s.corners.addAll(corners);
            s.lasts.addAll(lasts);
            s.heard.addAll(heard);
            s.laws.addAll(laws);
            s.force = force;
            s.hour = hour;
            s.cries = cries;
            s.mood = mood;
            return s;
        }

        boolean lane(int l) {
            return l >= 0 && l < lanes.size();
        }

        boolean child(int c) {
            return c >= 0 && c < ages.size();
        }

        ModelText law() {
            return force < 0 ? null : laws.get(force);
        }

        int named() {
            int n = 0;
            for (int x : names) {
                n += x == -1 ? 0 : 1;
            }
            return n;
        }
    }

    record Step(int kind, State ahead) {
    }

    State now = new State();
    List<Step> steps = new ArrayList<>();
    State[] images = new State[2];
    State drawn;
    StringBuilder tape = new StringBuilder();
    int fault = -1;
    int stopped = -1;
    int gravel;
    int status;
    int[] refused = new int[7];

    private int no(int why) {
        status = why;
        refused[-why]++;
        return why;
    }

    private int yes(int told) {
        status = 0;
        return told;
    }

    private static boolean in(int x, int low, int high) {
        return low <= x && x <= high;
    }

    private static boolean laneCanBe(int one, int other, int length, int sight) {
        return in(one, 0, 7) && in(other, 0, 7) && one != other && in(length, 1, 9) && in(sight, 0, 4);
    }

    int lane(int one, int other, int length, int sight) {
        if (!laneCanBe(one, other, length, sight)) {
            return no(-1);
        }
        if (now.lanes.size() == 10) {
            return no(-5);
        }
        now.lanes.add(new Lane(one, other, length, sight));
        now.names.add(-1);
        steps.clear();
        return yes(now.lanes.size() - 1);
    }

    int at(int lane, int what) {
        if (!now.lane(lane) || !in(what, 0, 4)) {
            return -1;
        }
        Lane l = now.lanes.get(lane);
        return new int[] {l.one, l.other, l.length, l.sight, now.names.get(lane)}[what];
    }

    int child(int age, int corner) {
        if (!in(age, 1, 9) || !in(corner, 0, 7)) {
            return no(-1);
        }
        if (now.ages.size() == 4) {
            return no(-5);
        }
        now.ages.add(age);
        now.corners.add(corner);
        now.lasts.add(-1);
        steps.clear();
        return yes(now.ages.size() - 1);
    }

    private static int word(State s, int child, int lane, String w) {
        switch (w) {
            case "child":
                return child;
            case "age":
                return s.ages.get(child);
            case "lane":
                return lane;
            case "long":
                return lane < 0 ? -1 : s.lanes.get(lane).length;
            case "sight":
                return lane < 0 ? -1 : s.lanes.get(lane).sight;
            case "corner":
                return s.corners.get(child);
            case "last":
                return s.lasts.get(child);
            case "hour":
                return s.hour;
            case "mood":
                return s.mood;
            default:
                throw new IllegalStateException(w);
        }
    }

    /** What all clauses of that kind that hold tell, in their row. */
    private static List<Long> tells(State s, ModelText law, String kind, int child, int lane) {
        List<Long> told = new ArrayList<>();
        if (law == null) {
            return told;
        }
        for (ModelText.Clause c : law.clauses) {
            if (!c.kind().equals(kind)) {
                continue;
            }
            try {
                ModelText.Words words = w -> word(s, child, lane, w);
                if (c.test() == null || c.test().value(words) == 1) {
                    told.add(c.first() == null ? 1L : c.first().value(words));
                }
            } catch (ModelText.Broken e) {
                continue;
            }
        }
        return told;
    }

    private static int lastOf(List<Long> told, int most, int without) {
        if (told.isEmpty()) {
            return without;
        }
        long t = told.get(told.size() - 1);
        return t < 0 ? 0 : t > most ? most : (int) t;
    }

    private static int turns(State s, ModelText law, int child) {
        return lastOf(tells(s, law, "turns", child, -1), 99, 0);
    }

    private static int says(State s, int child, int lane) {
        return lastOf(tells(s, s.law(), "says", child, lane), 19, s.lanes.get(lane).sight);
    }

    private static boolean barred(State s, ModelText law, int child, int lane) {
        return !tells(s, law, "bars", child, lane).isEmpty();
    }

    private static int goes(State s, ModelText law, int child) {
        List<Integer> open = new ArrayList<>();
        for (int l = 0; l < s.lanes.size(); l++) {
            if (s.lanes.get(l).touches(s.corners.get(child)) && !barred(s, law, child, l)) {
                open.add(l);
            }
        }
        return open.isEmpty() ? -1 : open.get(turns(s, law, child) % open.size());
    }

    int of(int child, int what) {
        if (!now.child(child)) {
            return -1;
        }
        switch (what) {
            case 0:
                return now.ages.get(child);
            case 1:
                return now.corners.get(child);
            case 2:
                return now.lasts.get(child);
            case 3:
                return turns(now, now.law(), child);
            case 4:
                return goes(now, now.law(), child);
            default:
                return -1;
        }
    }

    int asks(int child, int lane, int what) {
        if (!now.child(child) || !now.lane(lane) || !in(what, 0, 1)) {
            return -1;
        }
        return what == 0 ? says(now, child, lane) : barred(now, now.law(), child, lane) ? 1 : 0;
    }

    int terms(int what, int value) {
        if (!in(what, 0, 2) || !in(value, 0, what == 0 ? 999 : what == 1 ? 10 : 9)) {
            return no(-1);
        }
        int was;
        if (what == 0) {
            was = now.hour;
            now.hour = value;
        } else if (what == 1) {
            was = now.cries;
            now.cries = value;
        } else {
            was = now.mood;
            now.mood = value;
        }
        steps.clear();
        return yes(was);
    }

    int feed(int a, int b, int c, int d, int e) {
        if (tape.length() > 380) {
            return -1;
        }
        for (int x : new int[] {a, b, c, d, e}) {
            for (int k = 3; k >= 0; k--) {
                tape.append((char) (x >> 8 * k & 0xff));
            }
        }
        return tape.length();
    }

    int end(int n) {
        if (!in(n, 0, tape.length())) {
            return -1;
        }
        tape.setLength(n);
        return n;
    }

    int row() {
        if (tape.length() == 0) {
            return no(-6);
        }
        String t = tape.toString();
        tape.setLength(0);
        int came = 0;
        gravel = 0;
        while (!t.isEmpty()) {
            if (t.length() >= 4 && laneCanBe(t.charAt(0), t.charAt(1), t.charAt(2), t.charAt(3)) && now.lanes.size() < 10) {
                now.lanes.add(new Lane(t.charAt(0), t.charAt(1), t.charAt(2), t.charAt(3)));
                now.names.add(-1);
                came++;
            } else {
                gravel++;
            }
            t = t.substring(Math.min(4, t.length()));
        }
        steps.clear();
        return yes(came);
    }

    private ModelText take(boolean law) {
        String t = tape.toString();
        tape.setLength(0);
        try {
            fault = -1;
            return new ModelText(t, law);
        } catch (ModelText.Fault f) {
            fault = f.place;
            return null;
        }
    }

    int law() {
        if (now.laws.size() == 6) {
            tape.setLength(0);
            return no(-5);
        }
        ModelText t = take(true);
        if (t == null) {
            return no(-6);
        }
        now.laws.add(t);
        return yes(now.laws.size() - 1);
    }

    private int done;
    private int latest;

    private int orderWord(String w) {
        if (w.startsWith("at ")) {
            int c = Integer.parseInt(w.substring(3));
            return now.child(c) ? now.corners.get(c) : -1;
        }
        if (w.startsWith("plate ")) {
            int l = Integer.parseInt(w.substring(6));
            return now.lane(l) ? now.names.get(l) : -1;
        }
        switch (w) {
            case "hour":
                return now.hour;
            case "done":
                return done;
            case "latest":
                return latest;
            case "named":
                return now.named();
            case "kids":
                return now.ages.size();
            default:
                throw new IllegalStateException(w);
        }
    }

    int orders() {
        ModelText t = take(false);
        stopped = -1;
        if (t == null) {
            return no(-6);
        }
        State was = now.copy();
        List<Step> had = new ArrayList<>(steps);
        done = 0;
        latest = -1;
        for (int i = 0; i < t.clauses.size(); i++) {
            ModelText.Clause c = t.clauses.get(i);
            for (int k = 0; k < c.times(); k++) {
                if (!obey(c)) {
                    now = was;
                    steps = had;
                    stopped = i;
                    return no(-3);
                }
            }
        }
        return yes(done);
    }

    private boolean obey(ModelText.Clause c) {
        try {
            if (c.test() != null && c.test().value(this::orderWord) == 0) {
                return true;
            }
        } catch (ModelText.Broken e) {
            return true;
        }
        try {
            int a = c.first() == null ? 0 : (int) c.first().value(this::orderWord);
            int b = c.second() == null ? 0 : (int) c.second().value(this::orderWord);
            int told = step(Arrays.asList("wander", "cry", "lead", "pass").indexOf(c.kind()), a, b);
            if (told < 0) {
                return false;
            }
            done++;
            if (c.kind().equals("cry")) {
                latest = told;
            }
            return true;
        } catch (ModelText.Broken e) {
            return false;
        }
    }

    private int step(int kind, int a, int b) {
        State ahead = now.copy();
        int told = kind == 0 ? wanderOf(now, a) : kind == 1 ? cryOf(now, a) : kind == 2 ? leadOf(now, a, b) : passOf(now);
        if (told >= 0) {
            steps.add(new Step(kind, ahead));
            if (steps.size() > 16) {
                steps.remove(0);
            }
        }
        return told;
    }

    private static int wanderOf(State s, int child) {
        if (!s.child(child)) {
            return -2;
        }
        int l = goes(s, s.law(), child);
        if (l < 0) {
            return -3;
        }
        s.corners.set(child, s.lanes.get(l).across(s.corners.get(child)));
        s.lasts.set(child, l);
        return s.corners.get(child);
    }

    private static int cryOf(State s, int child) {
        if (!s.child(child)) {
            return -2;
        }
        int l = s.lasts.get(child);
        if (l < 0) {
            return -3;
        }
        s.names.set(l, says(s, child, l));
        return s.names.get(l);
    }

    private static int leadOf(State s, int child, int corner) {
        if (!in(corner, 0, 7)) {
            return -1;
        }
        if (!s.child(child)) {
            return -2;
        }
        return s.corners.get(child) == corner ? -3 : s.corners.set(child, corner);
    }

    private static int hourOf(State s) {
        State ahead = s.copy();
        int went = 0;
        for (int c = 0; c < s.ages.size(); c++) {
            int l = goes(ahead, ahead.law(), c);
            if (l >= 0) {
                s.corners.set(c, s.lanes.get(l).across(s.corners.get(c)));
                s.lasts.set(c, l);
                went++;
            }
        }
        s.hour++;
        return went;
    }

    private static int passOf(State s) {
        return s.hour == 999 ? -3 : hourOf(s);
    }

    private int told(int t) {
        return t < 0 ? no(t) : yes(t);
    }

    int wander(int child) {
        return told(step(0, child, 0));
    }

    int cry(int child) {
        return told(step(1, child, 0));
    }

    int lead(int child, int corner) {
        return told(step(2, child, corner));
    }

    int pass() {
        return told(step(3, 0, 0));
    }

    int force(int law) {
        if (!in(law, -1, now.laws.size() - 1)) {
            return no(-2);
        }
        int was = now.force;
        now.force = law;
        return yes(was);
    }

    int undo() {
        if (steps.isEmpty()) {
            return no(-3);
        }
        Step s = steps.remove(steps.size() - 1);
        now.corners = s.ahead.copy().corners;
        now.lasts = s.ahead.copy().lasts;
        now.names = s.ahead.copy().names;
        now.hour = s.ahead.hour;
        return yes(s.kind);
    }

    private int[] track(int child) {
        State s = now.copy();
        int[] t = new int[61];
        for (int n = 0; n <= 60; n++) {
            t[n] = s.corners.get(child);
            hourOf(s);
        }
        return t;
    }

    int where(int child, int n) {
        return now.child(child) && in(n, 0, 60) ? track(child)[n] : -1;
    }

    /** Tries all ways without a corner twice. */
    private int shortest(int from, int to, int seen) {
        if (from == to) {
            return 0;
        }
        int best = 1 << 20;
        for (Lane l : now.lanes) {
            if (l.touches(from) && (seen >> l.across(from) & 1) == 0) {
                best = Math.min(best, l.length + shortest(l.across(from), to, seen | 1 << l.across(from)));
            }
        }
        return best;
    }

    int far(int from, int to) {
        if (!in(from, 0, 7) || !in(to, 0, 7)) {
            return -1;
        }
        int d = shortest(from, to, 1 << from);
        return d < 1 << 20 ? d : -1;
    }

    int found(int corner, int child) {
        return in(corner, 0, 7) && now.child(child) ? foundOn(corner, track(child)) : -1;
    }

    private int foundOn(int corner, int[] t) {
        for (int n = 0; n <= 60; n++) {
            int d = far(corner, t[n]);
            if (d != -1 && d <= n) {
                return n;
            }
        }
        return -1;
    }

    int post(int what) {
        int best = -1;
        int hours = 61;
        for (int c = 7; c >= 0; c--) {
            int last = 0;
            for (int k = 0; k < now.ages.size() && last != -1; k++) {
                int f = foundOn(c, track(k));
                last = f == -1 ? -1 : Math.max(last, f);
            }
            if (last != -1 && last <= hours) {
                hours = last;
                best = c;
            }
        }
        if (now.ages.isEmpty() || best == -1 || !in(what, 0, 1)) {
            return -1;
        }
        return what == 0 ? best : hours;
    }

    int posts(int d, int what) {
        if (!in(d, 0, 50) || !in(what, 0, 1)) {
            return -1;
        }
        for (int many = 0; many <= 8; many++) {
            for (int set = 0; set < 256; set++) {
                if (Integer.bitCount(set) == many && allNear(set, d)) {
                    return what == 0 ? many : set;
                }
            }
        }
        throw new IllegalStateException();
    }

    private boolean allNear(int set, int d) {
        for (Lane l : now.lanes) {
            for (int c : new int[] {l.one, l.other}) {
                boolean near = false;
                for (int p = 0; p < 8; p++) {
                    near |= (set >> p & 1) == 1 && far(p, c) != -1 && far(p, c) <= d;
                }
                if (!near) {
                    return false;
                }
            }
        }
        return true;
    }

    int again(int child) {
        if (!now.child(child)) {
            return -1;
        }
        int[] t = track(child);
        for (int n = 1; n <= 60; n++) {
            if (t[n] == t[0]) {
                return n;
            }
        }
        return -1;
    }

    int hear(int name) {
        if (!in(name, 0, 19)) {
            return no(-1);
        }
        if (now.heard.size() == 6) {
            return no(-5);
        }
        now.heard.add(name);
        return yes(now.heard.size());
    }

    int forget() {
        int n = now.heard.size();
        now.heard.clear();
        return n;
    }

    private int ways(int c, int i, int[] ends) {
        if (i == now.heard.size()) {
            ends[0] |= 1 << c;
            return 1;
        }
        int n = 0;
        for (int l = 0; l < now.lanes.size(); l++) {
            if (now.lanes.get(l).touches(c) && now.names.get(l).intValue() == now.heard.get(i)) {
                n += ways(now.lanes.get(l).across(c), i + 1, ends);
            }
        }
        return n;
    }

    int gone(int what) {
        int n = 0;
        int begins = 0;
        int[] ends = {0};
        for (int c = 0; c < 8; c++) {
            int w = ways(c, 0, ends);
            n += w;
            begins |= w > 0 ? 1 << c : 0;
        }
        return what == 0 ? n : what == 1 ? begins : what == 2 ? ends[0] : -1;
    }

    int named(int name) {
        return in(name, 0, 19) ? now.names.indexOf(name) : -1;
    }

    /** All rows of corners of shortest ways from one corner to another, without the first corner. */
    private void rows(int from, int to, int left, List<Integer> soFar, List<List<Integer>> all) {
        if (left < 0) {
            return;
        }
        if (from == to) {
            if (left == 0) {
                all.add(new ArrayList<>(soFar));
            }
            return;
        }
        for (Lane l : now.lanes) {
            if (l.touches(from)) {
                soFar.add(l.across(from));
                rows(l.across(from), to, left - l.length, soFar, all);
                soFar.remove(soFar.size() - 1);
            }
        }
    }

    int letter(int from, int name, int i) {
        if (!in(from, 0, 7) || !in(name, 0, 19) || i < -2) {
            return -1;
        }
        int least = Integer.MAX_VALUE;
        for (int l = 0; l < now.lanes.size(); l++) {
            if (now.names.get(l) == name) {
                for (int c : new int[] {now.lanes.get(l).one, now.lanes.get(l).other}) {
                    if (far(from, c) != -1) {
                        least = Math.min(least, far(from, c));
                    }
                }
            }
        }
        if (least == Integer.MAX_VALUE) {
            return -1;
        }
        if (i == -1) {
            return least;
        }
        for (int l = 0; l < now.lanes.size(); l++) {
            for (int c = 0; c < 8; c++) {
                if (now.names.get(l) == name && now.lanes.get(l).touches(c) && far(from, c) == least) {
                    return i == -2 ? l : cornerOf(from, c, least, i);
                }
            }
        }
        throw new IllegalStateException();
    }

    private int cornerOf(int from, int to, int left, int i) {
        List<List<Integer>> all = new ArrayList<>();
        rows(from, to, left, new ArrayList<>(), all);
        all.sort((a, b) -> {
            for (int k = 0; k < Math.min(a.size(), b.size()); k++) {
                if (!a.get(k).equals(b.get(k))) {
                    return a.get(k) - b.get(k);
                }
            }
            return a.size() - b.size();
        });
        return i < all.get(0).size() ? all.get(0).get(i) : -1;
    }

    private boolean colour(int[] row, int l, int many) {
        if (l == row.length) {
            return true;
        }
        for (int n = 0; n < many; n++) {
            boolean free = true;
            for (int k = 0; k < l; k++) {
                free &= row[k] != n || !now.lanes.get(k).meets(now.lanes.get(l));
            }
            row[l] = n;
            if (free && colour(row, l + 1, many)) {
                return true;
            }
        }
        return false;
    }

    int apart(int what) {
        int[] row = new int[now.lanes.size()];
        int many = 0;
        while (!colour(row, 0, many)) {
            many++;
        }
        return what == 0 ? many : in(what, 1, row.length) ? row[what - 1] : -1;
    }

    int alike() {
        int n = 0;
        for (int a = 0; a < now.lanes.size(); a++) {
            for (int b = 0; b < a; b++) {
                if (now.names.get(a) >= 0 && now.names.get(a).equals(now.names.get(b)) && now.lanes.get(a).meets(now.lanes.get(b))) {
                    n++;
                }
            }
        }
        return n;
    }

    /** The least of all walks by corner and set of lanes that were gone along. */
    int round() {
        int many = now.lanes.size();
        if (many == 0) {
            return 0;
        }
        int start = now.lanes.get(0).one;
        int[][] best = new int[1 << many][8];
        for (int[] b : best) {
            Arrays.fill(b, 1 << 20);
        }
        best[0][start] = 0;
        for (int set = 0; set < 1 << many; set++) {
            boolean better = true;
            while (better) {
                better = false;
                for (int l = 0; l < many; l++) {
                    Lane lane = now.lanes.get(l);
                    for (int c : new int[] {lane.one, lane.other}) {
                        int then = set | 1 << l;
                        int cost = best[set][c] + lane.length;
                        if (cost < best[then][lane.across(c)]) {
                            best[then][lane.across(c)] = cost;
                            better |= then == set;
                        }
                    }
                }
            }
        }
        int b = best[(1 << many) - 1][start];
        return b < 1 << 20 ? b : -1;
    }

    int dead() {
        int set = 0;
        for (int c = 0; c < 8; c++) {
            int n = 0;
            for (Lane l : now.lanes) {
                n += l.touches(c) ? 1 : 0;
            }
            set |= n == 1 ? 1 << c : 0;
        }
        return set;
    }

    long few(int k, int n) {
        if (!in(k, 1, 20) || !in(n, 0, 99)) {
            return -1;
        }
        long[] p = new long[101];
        p[0] = 1_000_000_000_000L;
        for (int c = 0; c < n; c++) {
            long[] q = new long[101];
            for (int j = 0; j < 100; j++) {
                q[j] += p[j] * (10 - now.cries) / 10;
                q[j + 1] += p[j] * now.cries / 10;
            }
            p = q;
        }
        long sum = 0;
        for (int j = 0; j < k; j++) {
            sum += p[j];
        }
        return sum;
    }

    int compare(int law, int child) {
        if (!now.child(child) || !in(law, -1, now.laws.size() - 1)) {
            return -1;
        }
        State s = now.copy();
        s.force = law;
        int c = wanderOf(s, child);
        return c < 0 ? now.corners.get(child) : c;
    }

    int decades(int seed, int n) {
        if (!in(seed, 0, 1_000_000) || !in(n, 1, 60)) {
            return no(-1);
        }
        if (now.ages.isEmpty()) {
            return no(-3);
        }
        State s = now.copy();
        long[] draw = {seed};
        for (int i = 0; i < n; i++) {
            if (s.hour == 999) {
                break;
            }
            int child = draw(draw, s.ages.size());
            int corner = draw(draw, 8);
            int what = draw(draw, 4);
            if (what < 2) {
                cryOf(s, child);
            }
            if (what == 2) {
                leadOf(s, child, corner);
            }
            passOf(s);
        }
        drawn = s;
        return yes(s.named());
    }

    private static int draw(long[] s, int m) {
        s[0] = (s[0] * 1103 + 12345) % 1_000_003;
        return (int) (s[0] % m);
    }

    int drawn(int k, int what) {
        if (drawn == null) {
            return -1;
        }
        return what == 0 && drawn.child(k) ? drawn.corners.get(k) : what == 1 && drawn.lane(k) ? drawn.names.get(k) : -1;
    }

    int image(int k) {
        if (!in(k, 0, 1)) {
            return no(-1);
        }
        images[k] = now.copy();
        return yes(0);
    }

    int back(int k) {
        if (!in(k, 0, 1)) {
            return no(-1);
        }
        if (images[k] == null) {
            return no(-2);
        }
        now = images[k].copy();
        steps.clear();
        return yes(0);
    }

    int count(int what) {
        int[] all = {now.lanes.size(), now.ages.size(), now.named(), now.heard.size(), now.laws.size(), steps.size(),
            tape.length(), refused[1], refused[2], refused[3], refused[5], refused[6], now.force, now.hour, now.cries,
            now.mood};
        return in(what, 0, 15) ? all[what] : -1;
    }
}
