import java.util.Random;

/** Random runs of at most 512 calls, each answer compared with the model's. */
public final class ModelTest {
    private static int wrong;
    private static long calls;
    private static final long[] ANSWERED = new long[45];
    private static final long[] ACCEPTED = new long[45];

    private final Random dice;
    private final LostLanes x = new LostLanes();
    private final Model m = new Model();
    private final int run;
    private int made;

    private ModelTest(int run) {
        this.run = run;
        this.dice = new Random(run * 7919L + 13);
    }

    public static void main(String[] args) {
        int runs = args.length > 0 ? Integer.parseInt(args[0]) : 1200;
        for (int run = 0; run < runs && wrong < 10; run++) {
            new ModelTest(run).go();
        }
        System.out.println(runs + " runs, " + calls + " calls, " + wrong + " wrong");
        for (int k = 2; k <= 44; k++) {
            // The dice must not come to throw nothing but refusals.
            if (ACCEPTED[k] * 8 < ANSWERED[k] || ACCEPTED[k] == 0) {
                System.out.println("promise " + k + ": of " + ANSWERED[k] + " calls too few told anything: " + ACCEPTED[k]);
                wrong++;
            }
        }
        if (wrong != 0) {
            System.exit(1);
        }
    }

    private void same(int promise, String call, long got, long want) {
        calls++;
        made++;
        ANSWERED[promise]++;
        if (want >= 0) {
            ACCEPTED[promise]++;
        }
        if (got != want) {
            wrong++;
            System.out.println("run " + run + ", call " + made + ": " + call + " answered " + got + ", the model " + want);
        }
    }

    /** Mostly 0 .. high, now and then a number beyond. */
    private int near(int low, int high) {
        int odd = dice.nextInt(40);
        if (odd == 0) {
            return low - 1 - dice.nextInt(3);
        }
        if (odd == 1) {
            return high + 1 + dice.nextInt(3);
        }
        if (odd == 2 && dice.nextInt(5) == 0) {
            return dice.nextInt();
        }
        return low + dice.nextInt(high - low + 1);
    }

    private void go() {
        int corners = 2 + dice.nextInt(6);
        // Few runs in a borough that is nearly empty: most answers there are NONE.
        int lanes = dice.nextInt(8) == 0 ? dice.nextInt(11) : 5 + dice.nextInt(6);
        for (int i = 0; i < 25 && m.now.lanes.size() < lanes; i++) {
            lane(corners);
        }
        int kids = dice.nextInt(12) == 0 ? 0 : 1 + dice.nextInt(4);
        for (int i = 0; i < 9 && m.now.ages.size() < kids; i++) {
            child(corners);
        }
        int laws = dice.nextInt(4);
        for (int i = 0; i < laws; i++) {
            text(true);
        }
        force();
        for (int i = dice.nextInt(12); i > 0; i--) {
            int c = dice.nextInt(4);
            same(17, "wander(" + c + ")", x.wander(c), m.wander(c));
            same(18, "cry(" + c + ")", x.cry(c), m.cry(c));
        }
        int most = 60 + dice.nextInt(420);
        while (made < most && wrong < 10) {
            if (dice.nextInt(3) == 0) {
                change(corners);
            } else {
                ask();
            }
        }
    }

    private void lane(int corners) {
        int a = near(0, corners);
        int b = near(0, corners);
        int c = near(1, 9);
        int d = near(0, 4);
        same(2, "lane(" + a + ", " + b + ", " + c + ", " + d + ")", x.lane(a, b, c, d), m.lane(a, b, c, d));
    }

    private void child(int corners) {
        int a = near(1, 9);
        int b = near(0, corners);
        same(4, "child(" + a + ", " + b + ")", x.child(a, b), m.child(a, b));
    }

    private void force() {
        int l = dice.nextInt(4) == 0 ? near(-1, 5) : m.now.laws.size() - 1;
        same(16, "force(" + l + ")", x.force(l), m.force(l));
    }

    private void bytes(int... bytes) {
        int[] all = java.util.Arrays.copyOf(bytes, (bytes.length + 19) / 20 * 20);
        int before = m.tape.length();
        for (int i = 0; i < all.length; i += 20) {
            int[] f = new int[5];
            for (int k = 0; k < 20; k++) {
                f[k / 4] = f[k / 4] << 8 | all[i + k];
            }
            same(8, "feed", x.feed(f[0], f[1], f[2], f[3], f[4]), m.feed(f[0], f[1], f[2], f[3], f[4]));
        }
        int n = before + bytes.length - (dice.nextInt(30) == 0 ? dice.nextInt(6) : 0);
        same(9, "end(" + n + ")", x.end(n), m.end(n));
    }

    private void text(boolean law) {
        String t = new Texts(dice, law).text();
        int[] b = new int[t.length()];
        for (int i = 0; i < b.length; i++) {
            b[i] = t.charAt(i);
        }
        if (b.length > 400) {
            b = java.util.Arrays.copyOf(b, 400);
        }
        bytes(b);
        if (law) {
            same(12, "law() of '" + t + "'", x.law(), m.law());
        } else {
            same(13, "orders() of '" + t + "'", x.orders(), m.orders());
            same(15, "stopped()", x.stopped(), m.stopped);
        }
        same(14, "fault() of '" + t + "'", x.fault(), m.fault);
    }

    private void row() {
        int[] b = new int[dice.nextInt(14)];
        int[] most = {7, 7, 9, 4};
        for (int i = 0; i < b.length; i++) {
            b[i] = near(0, most[i % 4]) & 255;
        }
        bytes(b);
        same(10, "row()", x.row(), m.row());
    }

    private void change(int corners) {
        int c = dice.nextInt(6) == 0 ? near(0, 3) : dice.nextInt(Math.max(1, m.now.ages.size()));
        switch (dice.nextInt(24)) {
            case 0:
                if (dice.nextInt(6) == 0) {
                    lane(corners);
                }
                break;
            case 1:
                if (dice.nextInt(6) == 0) {
                    child(corners);
                }
                break;
            case 2:
                if (dice.nextInt(3) == 0) {
                    terms();
                }
                break;
            case 3:
                if (dice.nextInt(5) == 0) {
                    row();
                }
                break;
            case 4:
                text(true);
                break;
            case 5:
            case 6:
            case 7:
                text(false);
                break;
            case 8:
                force();
                break;
            case 9:
            case 10:
            case 11:
                same(17, "wander(" + c + ")", x.wander(c), m.wander(c));
                break;
            case 12:
            case 13:
            case 14:
                same(18, "cry(" + c + ")", x.cry(c), m.cry(c));
                break;
            case 15:
            case 16:
                int to = near(0, 7);
                same(19, "lead(" + c + ", " + to + ")", x.lead(c, to), m.lead(c, to));
                break;
            case 17:
            case 18:
                same(20, "pass()", x.pass(), m.pass());
                break;
            case 19:
                for (int n = dice.nextInt(6); n >= 0; n--) {
                    same(21, "undo()", x.undo(), m.undo());
                }
                break;
            default:
                change2();
                break;
        }
    }

    private void terms() {
        int what = near(0, 2);
        int value = what == 0 && dice.nextBoolean() ? near(950, 999) : near(0, what == 0 ? 999 : what == 1 ? 10 : 9);
        same(7, "terms(" + what + ", " + value + ")", x.terms(what, value), m.terms(what, value));
    }

    private void change2() {
        int k = near(0, 1);
        switch (dice.nextInt(6)) {
            case 0:
            case 1:
                int name = name();
                same(28, "hear(" + name + ")", x.hear(name), m.hear(name));
                break;
            case 2:
                if (dice.nextInt(2) == 0) {
                    same(29, "forget()", x.forget(), m.forget());
                }
                break;
            case 3:
                int seed = near(0, 1000000);
                int n = near(1, 60);
                same(39, "decades(" + seed + ", " + n + ")", x.decades(seed, n), m.decades(seed, n));
                break;
            case 4:
                same(41, "image(" + k + ")", x.image(k), m.image(k));
                break;
            default:
                same(42, "back(" + k + ")", x.back(k), m.back(k));
                break;
        }
    }

    /** Mostly one that a lane has. */
    private int name() {
        int from = dice.nextInt(10);
        for (int i = 0; i < m.now.names.size() && dice.nextInt(20) > 0; i++) {
            int name = m.now.names.get((i + from) % m.now.names.size());
            if (name >= 0) {
                return name;
            }
        }
        return near(0, 19);
    }

    private void ask() {
        int c = near(0, Math.max(0, m.now.ages.size() - 1));
        int l = near(0, Math.max(0, m.now.lanes.size() - 1));
        int a = near(0, 7);
        int b = near(0, 7);
        int w = near(0, 1);
        switch (dice.nextInt(30)) {
            case 0:
                int what = near(0, 4);
                same(3, "at(" + l + ", " + what + ")", x.at(l, what), m.at(l, what));
                break;
            case 1:
            case 2:
            case 3:
                int of = near(0, 4);
                same(5, "of(" + c + ", " + of + ")", x.of(c, of), m.of(c, of));
                break;
            case 4:
            case 5:
                same(6, "asks(" + c + ", " + l + ", " + w + ")", x.asks(c, l, w), m.asks(c, l, w));
                break;
            case 6:
            case 7:
                int n = near(0, 60);
                same(22, "where(" + c + ", " + n + ")", x.where(c, n), m.where(c, n));
                break;
            case 8:
                same(23, "far(" + a + ", " + b + ")", x.far(a, b), m.far(a, b));
                break;
            case 9:
                same(24, "found(" + a + ", " + c + ")", x.found(a, c), m.found(a, c));
                break;
            case 10:
                same(25, "post(" + w + ")", x.post(w), m.post(w));
                break;
            case 11:
                int d = dice.nextBoolean() ? near(0, 50) : near(0, 12);
                same(26, "posts(" + d + ", " + w + ")", x.posts(d, w), m.posts(d, w));
                break;
            case 12:
                same(27, "again(" + c + ")", x.again(c), m.again(c));
                break;
            case 13:
            case 14:
                int g = near(0, 2);
                same(30, "gone(" + g + ")", x.gone(g), m.gone(g));
                break;
            default:
                ask2(a, c);
                break;
        }
    }

    private void ask2(int a, int c) {
        int name = name();
        switch (dice.nextInt(15)) {
            case 0:
                same(31, "named(" + name + ")", x.named(name), m.named(name));
                break;
            case 1:
            case 2:
            case 3:
                int i = near(-2, 3);
                same(32, "letter(" + a + ", " + name + ", " + i + ")", x.letter(a, name, i), m.letter(a, name, i));
                break;
            case 4:
                int l = near(0, 10);
                same(33, "apart(" + l + ")", x.apart(l), m.apart(l));
                break;
            case 5:
                same(34, "alike()", x.alike(), m.alike());
                break;
            case 6:
                same(35, "round()", x.round(), m.round());
                break;
            case 7:
                same(36, "dead()", x.dead(), m.dead());
                break;
            case 8:
                int k = near(1, 20);
                int n = near(0, 99);
                same(37, "few(" + k + ", " + n + ")", x.few(k, n), m.few(k, n));
                break;
            case 9:
            case 10:
                int law = near(-1, Math.max(0, m.now.laws.size() - 1));
                same(38, "compare(" + law + ", " + c + ")", x.compare(law, c), m.compare(law, c));
                break;
            case 11:
                int w = near(0, 1);
                int d = near(0, w == 0 ? 3 : 9);
                same(40, "drawn(" + d + ", " + w + ")", x.drawn(d, w), m.drawn(d, w));
                break;
            case 12:
                same(11, "gravel()", x.gravel(), m.gravel);
                break;
            default:
                int what = near(0, 15);
                same(43, "count(" + what + ")", x.count(what), m.count(what));
                same(44, "status()", x.status(), m.status);
                break;
        }
    }
}
