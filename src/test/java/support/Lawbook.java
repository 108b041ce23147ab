/** What becomes of a text, a sum, a test, each on an object of its own. */
final class Lawbook {
    private Lawbook() {
    }

    /** Where the fault is, NONE without; -99 if what is told of the text does not go with it. */
    static int faultOf(boolean asLaw, String text) {
        LostLanes x = new LostLanes();
        Due.write(x, text);
        int told = asLaw ? x.law() : x.orders();
        // A text that can't be is refused by -6, and one that can be by nothing that is told of texts.
        return told == -6 == (x.fault() >= 0) ? x.fault() : -99;
    }

    /** What a child, five years old, at the corner 0, turns to; 77 if the sum is broken, as the clause ahead holds then. */
    static int turned(String sum) {
        LostLanes x = Boroughs.with(new LostLanes(), 0);
        x.force(Due.law(x, "turns 77; turns " + sum));
        return x.of(0, 3);
    }

    /** 1, 0, or 2 for a test that is broken, as its "not" is no more so than itself. */
    static int tested(String test) {
        boolean is = turned("1 if (" + test + ")") == 1;
        boolean isNot = turned("1 if not (" + test + ")") == 1;
        return is && isNot ? -9 : is ? 1 : isNot ? 0 : 2;
    }
}
