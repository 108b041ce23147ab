/** Boroughs that several tests begin with. */
final class Boroughs {
    private Boroughs() {
    }

    /** Corners 0, 1, 2, 3 in a round, the lanes 2, 3, 4, 5 long, with sights 1 to 4. */
    static LostLanes square() {
        LostLanes x = new LostLanes();
        x.lane(0, 1, 2, 1);
        x.lane(1, 2, 3, 2);
        x.lane(2, 3, 4, 3);
        x.lane(3, 0, 5, 4);
        return x;
    }

    /** Corners 0, 1, 2 and on, one behind the other. */
    static LostLanes line(int... lengths) {
        LostLanes x = new LostLanes();
        for (int i = 0; i < lengths.length; i++) {
            x.lane(i, i + 1, lengths[i], 0);
        }
        return x;
    }

    /** So many lanes, all between the corners 0 and 1. */
    static LostLanes bundle(int lanes) {
        LostLanes x = new LostLanes();
        for (int i = 0; i < lanes; i++) {
            x.lane(0, 1, 1, i % 5);
        }
        return x;
    }

    /** A child alone at a corner of such a borough. */
    static LostLanes with(LostLanes x, int corner) {
        x.child(5, corner);
        return x;
    }

    /** With a law in force, which must be one. */
    static LostLanes under(LostLanes x, String law) {
        int number = Due.law(x, law);
        Due.due("Promise 12", "law() of \"" + law + "\"", number, x.count(4) - 1);
        x.force(number);
        return x;
    }

    /**
     * Lanes as their corners, their length and a name (-1: none). Child 0 named them, and is at the corner 7 then;
     * law 0, by which it did, is not in force; it is the hour 0; nothing was refused.
     */
    static LostLanes plated(int[]... lanes) {
        LostLanes x = new LostLanes();
        StringBuilder says = new StringBuilder("bars if not lane = hour");
        for (int i = 0; i < lanes.length; i++) {
            x.lane(lanes[i][0], lanes[i][1], lanes[i][2], 0);
            if (lanes[i][3] >= 0) {
                says.append("; says ").append(lanes[i][3]).append(" if lane = ").append(i);
            }
        }
        x.child(5, 7);
        under(x, says.toString());
        for (int i = 0; i < lanes.length; i++) {
            if (lanes[i][3] >= 0) {
                x.terms(0, i);
                leadTo(x, 0, lanes[i][0]);
                x.wander(0);
                x.cry(0);
            }
        }
        leadTo(x, 0, 7);
        x.terms(0, 0);
        x.force(-1);
        return x;
    }

    static void leadTo(LostLanes x, int child, int corner) {
        if (x.of(child, 1) != corner) {
            x.lead(child, corner);
        }
    }
}
