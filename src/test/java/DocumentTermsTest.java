import java.lang.reflect.Constructor;
import java.lang.reflect.Field;
import java.lang.reflect.Method;
import java.lang.reflect.Modifier;
import java.util.Arrays;
import java.util.Set;
import java.util.TreeSet;
import java.util.stream.Collectors;

/** The document from its first word up to Terms II: each sentence as it stands there, and calls that show it. */
public final class DocumentTermsTest {
    private DocumentTermsTest() {
    }

    public static void main(String[] args) throws Exception {
        Document.open("# LostLanes", "III. To WANDER");
        whatItIs();
        face();
        cornersAndLanes();
        childrenHeardTerms();
        refusedBy();
        firstInThatOrder();
        tapeAndTokens();
        clauses();
        tests();
        sums();
        limits();
        faults();
        broken();
        laws();
        wordsOfLaws();
        holds();
        turnsSaysBars();
        orders();
        wordsOfOrders();
        runOfOrders();
        wordsAsTheyRun();
        ordersThatCannotBe();
        Document.close();
    }

    private static void says(String words) {
        Document.says(words);
    }

    private static void due(String call, long got, long want) {
        Document.due(call, got, want);
    }

    private static void law(String text, int fault) {
        due("fault() of the law \"" + text + "\"", Lawbook.faultOf(true, text), fault);
    }

    private static void orders(String text, int fault) {
        due("fault() of the orders \"" + text + "\"", Lawbook.faultOf(false, text), fault);
    }

    private static void turned(String sum, int told) {
        due("turns " + sum, Lawbook.turned(sum), told);
    }

    private static void tested(String test, int told) {
        due("if " + test, Lawbook.tested(test), told);
    }

    private static void ran(LostLanes x, String text, int told) {
        due("orders() of \"" + text + "\"", Due.orders(x, text), told);
    }

    private static LostLanes alone(int corner) {
        return Boroughs.with(Boroughs.square(), corner);
    }

    // What it is, the public face

    private static void whatItIs() {
        Document.shownByNone("# LostLanes ## What it is");
        says("A borough in which lost children name the lanes: corners, lanes between them that are long, have sights, "
                + "plates with names or none, children who wander from corner to corner and say where they think they "
                + "are; laws in a language of which lane a child turns to, what it says, which it does not dare; orders "
                + "in a second language that are run wholly or not at all; children wander, cry, are led, hours; where "
                + "one will be, when a policeman finds it, the corner from which all are found soonest, the fewest "
                + "corners from which all is near, how a child can have gone by names in a row, which lane a name is, "
                + "the way of a letter, the fewest names by which lanes that meet are told apart, lanes that are named "
                + "alike, the shortest round of all lanes with a pot of paint, when a child is back, dead ends, how "
                + "likely so few cry, a law compared with another one; hours undone, decades by draws; all gone back to.");
        LostLanes x = alone(0);
        x.image(0);
        due("a child wanders", x.wander(0), 1);
        due("and says of the lane what it saw there", x.cry(0), 1);
        due("the lane is named so", x.at(0, 4), 1);
        due("orders wholly", Due.orders(x, "wander 0; cry 0"), 2);
        due("orders not at all", Due.orders(x, "lead 0 to 6; cry 1"), -3);
        due("the child was not led", x.of(0, 1), 0);
        due("an hour", x.pass(), 1);
        due("undone", x.undo(), 3);
        due("it is the hour 0 again", x.count(13), 0);
        x.back(0);
        due("all gone back to", x.at(0, 4), -1);
        says("An object is used for at most 512 calls after it has been made; what later calls answer is free.");
        LostLanes y = Boroughs.with(Boroughs.line(1), 0);
        for (int call = 3; call <= 511; call++) {
            y.wander(0);
        }
        due("the 512th call", y.of(0, 1), 1);
    }

    private static void face() {
        Document.shownByNone("## The public face");
        Set<String> told = new TreeSet<>();
        String[] lines = Document.saysUpTo("## Terms").split("[;{}]");
        for (String line : lines) {
            // Names of parameters are not in the class, so they are left out here.
            told.add(line.replaceAll("(int|long) \\w+(?=[,)])", "$1").replace(", ", ",").trim());
        }
        told.remove("");
        Set<String> is = new TreeSet<>();
        Class<LostLanes> c = LostLanes.class;
        is.add(Modifier.toString(c.getModifiers()) + " class " + c.getName());
        for (Field f : c.getDeclaredFields()) {
            if (!Modifier.isPrivate(f.getModifiers())) {
                is.add(Modifier.toString(f.getModifiers()) + " " + f.getType() + " " + f.getName() + " = " + LostLanes.NONE);
            }
        }
        for (Constructor<?> made : c.getDeclaredConstructors()) {
            if (!Modifier.isPrivate(made.getModifiers())) {
                is.add(Modifier.toString(made.getModifiers()) + " LostLanes(" + typesOf(made.getParameterTypes()) + ")");
            }
        }
        for (Method m : c.getDeclaredMethods()) {
            if (!Modifier.isPrivate(m.getModifiers())) {
                is.add(Modifier.toString(m.getModifiers()) + " " + m.getReturnType() + " " + m.getName() + "("
                        + typesOf(m.getParameterTypes()) + ")");
            }
        }
        Set<String> lacks = new TreeSet<>(told);
        lacks.removeAll(is);
        Set<String> more = new TreeSet<>(is);
        more.removeAll(told);
        due("members that the face lacks: " + lacks, lacks.size(), 0);
        due("members that the face has beyond: " + more, more.size(), 0);
        due("members", told.size(), 46);
        due("classes above it but Object", c.getSuperclass() == Object.class && c.getInterfaces().length == 0 ? 0 : 1, 0);
    }

    private static String typesOf(Class<?>[] types) {
        return Arrays.stream(types).map(Class::getName).collect(Collectors.joining(","));
    }

    // Terms I

    private static void cornersAndLanes() {
        Document.shownByNone("## Terms I.");
        says("CORNERS 0 .. 7.");
        Document.within(0, 7, c -> new LostLanes().lane(c, 4, 1, 0), c -> 0, -1);
        Document.within(0, 7, c -> new LostLanes().lane(4, c, 1, 0), c -> 0, -1);
        Document.within(0, 7, c -> new LostLanes().child(1, c), c -> 0, -1);
        says("LANES 0 .. 9 (10 at most):");
        LostLanes ten = new LostLanes();
        for (int i = 0; i < 10; i++) {
            due("lane", ten.lane(0, 1, 1, 0), i);
        }
        due("the 11th", ten.lane(0, 1, 1, 0), -5);
        Document.within(0, 9, l -> ten.at(l, 2), l -> 1, -1);
        says("from a CORNER to another one,");
        for (int c = 0; c < 8; c++) {
            due("from a corner to itself", new LostLanes().lane(c, c, 1, 0), -1);
            due("from a corner to the next", new LostLanes().lane(c, (c + 1) % 8, 1, 0), 0);
        }
        says("both ways,");
        LostLanes way = Boroughs.with(Boroughs.line(4), 1);
        due("far there", way.far(0, 1), 4);
        due("far back", way.far(1, 0), 4);
        due("wander from the other end", way.wander(0), 0);
        due("wander from the one end", way.wander(0), 1);
        says("LONG 1 .. 9,");
        Document.within(1, 9, n -> {
            LostLanes x = new LostLanes();
            return x.lane(0, 1, n, 0) < 0 ? -1 : x.far(0, 1);
        }, n -> n, -1);
        says("a SIGHT 0 .. 4,");
        Document.within(0, 4, n -> {
            LostLanes x = new LostLanes();
            return x.lane(0, 1, 1, n) < 0 ? -1 : x.at(0, 3);
        }, n -> n, -1);
        says("a NAME 0 .. 19 or none (at first).");
        LostLanes x = Boroughs.with(Boroughs.line(1), 0);
        due("at first", x.at(0, 4), -1);
        int[][] sayings = {{0, 0}, {19, 19}, {20, 19}};
        for (int[] s : sayings) {
            LostLanes y = Boroughs.under(Boroughs.with(Boroughs.line(1), 0), "says " + s[0]);
            y.wander(0);
            y.cry(0);
            due("the name by says " + s[0], y.at(0, 4), s[1]);
        }
        Document.within(0, 19, n -> new LostLanes().hear(n), n -> 1, -1);
    }

    private static void childrenHeardTerms() {
        says("CHILDREN 0 .. 3 (4 at most):");
        LostLanes x = Boroughs.line(1);
        for (int i = 0; i < 4; i++) {
            due("child", x.child(1, i), i);
        }
        due("the 5th", x.child(1, 1), -5);
        Document.within(0, 3, c -> x.of(c, 1), c -> c, -1);
        says("AGE 1 .. 9,");
        Document.within(1, 9, a -> {
            LostLanes y = new LostLanes();
            return y.child(a, 0) < 0 ? -1 : y.of(0, 0);
        }, a -> a, -1);
        says("AT a CORNER,");
        Document.within(0, 7, c -> {
            LostLanes y = new LostLanes();
            return y.child(1, c) < 0 ? -1 : y.of(0, 1);
        }, c -> c, -1);
        says("the LANE it went LAST or none (at first).");
        due("at first", x.of(0, 2), -1);
        x.wander(0);
        due("the lane 0", x.of(0, 2), 0);
        says("HEARD, 6 at most:");
        for (int i = 1; i <= 6; i++) {
            due("hear", x.hear(1), i);
        }
        due("the 7th", x.hear(1), -5);
        says("NAMES in a row.");
        LostLanes row = Boroughs.plated(new int[] {2, 3, 1, 4}, new int[] {3, 4, 1, 5});
        row.hear(4);
        row.hear(5);
        due("4, then 5: from 2", row.gone(1), 4);
        row.forget();
        row.hear(5);
        row.hear(4);
        due("5, then 4: from 4", row.gone(1), 16);
        says("TERMS: 0 HOUR 0 .. 999 (0 at first),");
        term(0, 999, 0);
        says("1 CRIES 0 .. 10 (1),");
        term(1, 10, 1);
        says("2 MOOD 0 .. 9 (0).");
        term(2, 9, 0);
        says("Sets of CORNERS are told as bits.");
        LostLanes far = new LostLanes();
        far.lane(2, 7, 1, 0);
        due("dead() of a lane from 2 to 7", far.dead(), 4 + 128);
        due("posts(0, 1)", far.posts(0, 1), 4 + 128);
        due("gone(2), all corners", far.gone(2), 255);
    }

    private static void term(int what, int most, int first) {
        due("at first", new LostLanes().count(13 + what), first);
        Document.within(0, most, v -> {
            LostLanes x = new LostLanes();
            return x.terms(what, v) < 0 ? -1 : x.count(13 + what);
        }, v -> v, -1);
    }

    private static void refusedBy() {
        says("REFUSED by: -1 a number that can't be;");
        LostLanes x = Boroughs.with(Boroughs.line(1), 5);
        due("lane", x.lane(0, 1, 0, 0), -1);
        due("child", x.child(0, 0), -1);
        due("terms", x.terms(3, 0), -1);
        due("lead", x.lead(0, 8), -1);
        due("hear", x.hear(20), -1);
        due("decades", x.decades(-1, 1), -1);
        due("image", x.image(2), -1);
        due("back", x.back(2), -1);
        due("how many", x.count(7), 8);
        says("-2 there is no such LANE, CHILD, LAW, IMAGE;");
        due("wander", x.wander(1), -2);
        due("cry", x.cry(1), -2);
        due("lead", x.lead(1, 0), -2);
        due("force", x.force(0), -2);
        due("back", x.back(0), -2);
        due("how many", x.count(8), 5);
        says("-3 it can't be by what stands;");
        due("wander", x.wander(0), -3);
        due("cry", x.cry(0), -3);
        due("lead", x.lead(0, 5), -3);
        due("orders", Due.orders(x, "cry 0"), -3);
        due("undo", x.undo(), -3);
        due("decades", new LostLanes().decades(0, 1), -3);
        x.terms(0, 999);
        due("pass", x.pass(), -3);
        due("how many", x.count(9), 6);
        says("-5 no room;");
        LostLanes full = Boroughs.bundle(10);
        for (int i = 0; i < 6; i++) {
            full.child(1, 0);
            full.hear(0);
            Due.law(full, "bars");
        }
        due("two children too many", full.count(10), 2);
        due("lane", full.lane(0, 1, 1, 0), -5);
        due("child", full.child(1, 0), -5);
        due("hear", full.hear(0), -5);
        due("law", Due.law(full, "bars"), -5);
        due("how many", full.count(10), 6);
        says("-6 a TEXT, a ROW that can't be.");
        due("law", Due.law(x, "bars bars"), -6);
        due("orders", Due.orders(x, "pass pass"), -6);
        due("row", x.row(), -6);
        due("how many", x.count(11), 3);
    }

    private static void firstInThatOrder() {
        says("The first of these in that order.");
        LostLanes full = Boroughs.bundle(10);
        for (int i = 0; i < 6; i++) {
            full.hear(0);
            Due.law(full, "bars");
        }
        due("-1 ahead of -2", full.lead(0, 8), -1);
        due("-1 ahead of -3", full.decades(1000001, 1), -1);
        due("-1 ahead of -5, lane", full.lane(0, 0, 1, 0), -1);
        due("-1 ahead of -5, hear", full.hear(-1), -1);
        due("-2 ahead of -3, wander", full.wander(0), -2);
        due("-2 ahead of -3, cry", full.cry(0), -2);
        due("-2 ahead of -3, lead", full.lead(0, 0), -2);
        due("-5 ahead of -6", Due.law(full, "no law"), -5);
        for (int i = 0; i < 4; i++) {
            full.child(1, 0);
        }
        due("-1 ahead of -5, child", full.child(1, 8), -1);
    }

    // Terms II, of both languages

    private static void tapeAndTokens() {
        Document.shownByNone("II.");
        says("TEXTS are on a TAPE of at most 400 bytes.");
        LostLanes x = Boroughs.with(new LostLanes(), 0);
        Due.write(x, "turns" + " ".repeat(393) + "42");
        due("bytes", x.count(6), 400);
        due("one more", x.feed(0, 0, 0, 0, 0), -1);
        due("a law of 400 bytes", x.law(), 0);
        x.force(0);
        due("its last bytes", x.of(0, 3), 42);
        says("TOKENS: longest rows of letters a .. z,");
        law("bars", -1);
        law("barsz", 0);
        law("bar s", 0);
        law("bars`", 4);
        law("bars{", 4);
        law("barS", 0);
        law("turns age", -1);
        law("turns agelane", 6);
        law("turns a", 6);
        says("of digits,");
        turned("12", 12);
        turned("90", 90);
        law("turns 1 2", 8);
        law("turns 1/2", -1);
        law("turns 1:2", 7);
        law("turns1if1=1", -1);
        says("single other bytes,");
        law("bars if((1=1))or[[1]]=1", -1);
        law("bars if 1==1", 10);
        law("bars if 1<=1", 10);
        law("bars;;bars", 5);
        says("any blanks (32) between.");
        law("   bars   if   1   =   1   ;   turns   [   1   ]   ", -1);
        law("bars;turns[1]", -1);
        for (int other : new int[] {0, 9, 10, 13, 31, 33, 160}) {
            LostLanes y = new LostLanes();
            Due.writeBytes(y, 'b', 'a', 'r', 's', other);
            due("the byte " + other, y.law(), -6);
            due("its place", y.fault(), 4);
        }
    }

    private static void clauses() {
        says("Of both languages: CLAUSE {\";\" CLAUSE}, 12 at most");
        String bars = "bars;".repeat(11) + "bars";
        String passes = "pass;".repeat(11) + "pass";
        law(bars, -1);
        law("bars", -1);
        law("bars bars", 5);
        law("bars,bars", 4);
        law("bars;", 5);
        orders(passes, -1);
        orders("pass pass", 5);
        due("twelve are run", Due.orders(new LostLanes(), passes), 12);
        LostLanes x = Boroughs.under(alone(0), "turns 1;".repeat(11) + "bars if lane = 3");
        due("twelve are asked, the last of which bars", x.asks(0, 3, 1), 1);
        due("twelve are asked, none of which bars", x.asks(0, 0, 1), 0);
        due("it wanders along the lane that is left", x.wander(0), 1);
        says("(FAULT at the 13th's first TOKEN).");
        law(bars + ";  turns 1", 62);
        law(bars + ";", 60);
        orders(passes + "; pass", 61);
        due("a text of thirteen", Due.orders(new LostLanes(), passes + ";pass"), -6);
    }

    private static void tests() {
        says("TEST: BOTH {\"or\" BOTH}.");
        tested("1=1 or 1=2", 1);
        tested("1=2 or 1=1", 1);
        tested("1=2 or 1=2", 0);
        tested("1=2 or 1=2 or 1=1", 1);
        tested("1=1 or 1=1 and 1=2", 1);
        tested("1=2 and 1=1 or 1=1", 1);
        law("bars if 1=1 or", 14);
        law("bars if or 1=1", 8);
        says("BOTH: PLAIN {\"and\" PLAIN}.");
        tested("1=1 and 1=1", 1);
        tested("1=1 and 1=2", 0);
        tested("1=2 and 1=1", 0);
        tested("1=1 and 1=1 and 1=2", 0);
        law("bars if 1=1 and", 15);
        law("bars if and 1=1", 8);
        says("PLAIN: \"not\" PLAIN | \"(\" TEST \")\" | SUM (\"<\" | \">\" | \"=\") SUM.");
        tested("not 1=1", 0);
        tested("not not 1=1", 1);
        tested("not 1=1 or 1=1", 1);
        tested("not 1=1 and 1=2", 0);
        tested("not (1=1 and 1=2)", 1);
        tested("(1=1 or 1=1) and 1=2", 0);
        tested("1<2", 1);
        tested("2<2", 0);
        tested("3>2", 1);
        tested("2>2", 0);
        tested("2=2", 1);
        tested("1=2", 0);
        tested("1+2<2*2", 1);
        law("bars if 1", 9);
        law("bars if (1=1", 12);
        law("bars if (1=1]", 12);
        law("bars if (1)=1", 10);
        law("bars if 1=1=1", 11);
        law("bars if not", 11);
    }

    private static void sums() {
        says("SUM: TERM {(\"+\" | \"-\") TERM}.");
        turned("9-3-2", 4);
        turned("9-3+2", 8);
        turned("2+3*4", 14);
        turned("20-8/4", 18);
        law("turns 1+", 8);
        law("turns +1", 6);
        law("turns -1", 6);
        says("TERM: PART {(\"*\" | \"/\" | \"%\") PART}.");
        turned("40/4/5", 2);
        turned("7*5%4", 3);
        turned("17%5*3", 6);
        turned("3*4*5", 60);
        law("turns 1*", 8);
        law("turns *1", 6);
        says("PART: NUMBER (to 1,000) | \"[\" SUM \"]\" | a word, as told.");
        turned("1000/500", 2);
        turned("0", 0);
        turned("0007", 7);
        turned("[2+3]*4", 20);
        turned("9-[3-2]", 8);
        turned("age", 5);
        law("turns 1000", -1);
        law("turns 1001", 6);
        law("turns 4294967296", 6);
        law("turns [1", 8);
        law("turns [1)", 8);
        law("turns []", 7);
        law("turns (1)", 6);
        law("turns word", 6);
        law("turns if", 6);
    }

    private static void limits() {
        says("50 PARTS that are NUMBERS and words (FAULT at the 51st),");
        String fifty = "turns age" + "+1".repeat(49);
        law(fifty, -1);
        turned("1" + "+1".repeat(48), 49);
        law(fifty + "+1", fifty.length() + 1);
        law(fifty + "+mood", fifty.length() + 1);
        law(fifty + "+[ 1]", fifty.length() + 3);
        law(fifty + ";bars;bars", -1);
        law(fifty + ";bars if 1=1", fifty.length() + 9);
        orders("wander 1" + "+1".repeat(49), -1);
        orders("wander 1" + "+1".repeat(50), 8 + 2 * 49 + 1);
        says("8 brackets of both kinds within one another (FAULT at the 9th) at most.");
        law("turns " + "[".repeat(8) + "1" + "]".repeat(8), -1);
        law("turns " + "[".repeat(9) + "1" + "]".repeat(9), 14);
        law("bars if " + "(".repeat(8) + "1=1" + ")".repeat(8), -1);
        law("bars if " + "(".repeat(9) + "1=1" + ")".repeat(9), 16);
        law("bars if ((((([[[1]]]=1)))))", -1);
        law("bars if (((((([[[1]]]=1))))))", 16);
        law("turns [1]+[1]+[1]+[1]+[1]+[1]+[1]+[1]+[1]", -1);
        turned("[[[[[[[[1+1]*2]+1]*2]+1]*2]+1]*2]", 46);
        turned("1+1*[1+1*[1+1*[1+1*[1+1*[1+1*[1+1*[1+1*[1+1*1]]]]]]]]", 10);
        tested("9=1+1*[1+1*[1+1*[1+1*[1+1*[1+1*[1+1*[1+1*1]]]]]]]", 1);
    }

    private static void faults() {
        says("FAULT: the first TOKEN that can't go on there");
        law("x y", 0);
        law("  x", 2);
        law("bars ; turns , x", 13);
        law("bars if 1=1 turns", 12);
        law("turns 1 ) ]", 8);
        orders("pass ; wander 0 to 1", 16);
        says("(the end's: the TEXT's length).");
        law("", 0);
        law("    ", 4);
        law("turns", 5);
        law("turns   ", 8);
        law("bars if 1 =  ", 13);
        orders("lead 0 to", 9);
        orders("lead 0 to  ", 11);
    }

    private static void broken() {
        String most = "1000*1000*1000";
        String least = "[0-1000]*1000*1000";
        says("Beyond 1,000,000,000 either way,");
        turned(most, 99);
        turned(most + "+1", 77);
        turned(least, 0);
        turned(least + "-1", 77);
        turned(most + "/[" + most + "]", 1);
        turned("1000*1000*[1000+1]", 77);
        turned("[" + most + "]*[" + most + "]", 77);
        says("or divided by 0 (/ cut towards 0, % what is left then),");
        turned("1/0", 77);
        turned("1%0", 77);
        turned("0/[1-1]", 77);
        turned("7/2", 3);
        turned("50+[0-7]/2", 47);
        turned("50+7/[0-2]", 47);
        turned("50+[0-7]%2", 49);
        turned("50+7%[0-2]", 51);
        says("a SUM, a TEST is BROKEN");
        turned("3+[1/0]*0", 77);
        tested("1/0=1", 2);
        tested("not 1/0=1", 2);
        tested(most + "+1>0", 2);
        tested(least + "-1<0", 2);
        tested("1=1%0", 2);
        says("(\"or\", \"and\" ask what stands behind only if it can still matter).");
        tested("1=1 or 1/0=1", 1);
        tested("1=2 or 1/0=1", 2);
        tested("1=2 and 1/0=1", 0);
        tested("1=1 and 1/0=1", 2);
        tested("1/0=1 or 1=1", 2);
        tested("1/0=1 and 1=2", 2);
        tested("1=2 and 1/0=1 or 1=1", 1);
        tested("1=1 or 1=1 and 1/0=1", 1);
    }

    // Terms II, LAWS

    private static void laws() {
        says("LAWS, 6 at most;");
        LostLanes x = alone(0);
        for (int i = 0; i < 6; i++) {
            due("law " + i, Due.law(x, "turns " + (i + 30)), i);
        }
        due("the 7th", Due.law(x, "turns 1"), -5);
        says("one is in FORCE (NONE at first: no CLAUSE):");
        due("at first", x.count(12), -1);
        due("no clause turns", x.of(0, 3), 0);
        due("no clause says", x.asks(0, 3, 0), 4);
        due("no clause bars", x.asks(0, 3, 1), 0);
        x.force(5);
        due("the last in force", x.of(0, 3), 35);
        x.force(0);
        due("the first in force", x.of(0, 3), 30);
        says("CLAUSE: ((\"turns\" | \"says\") SUM | \"bars\") [\"if\" TEST].");
        law("turns 1", -1);
        law("says 1", -1);
        law("bars", -1);
        law("turns 1 if 1=1", -1);
        law("says 1 if 1=1", -1);
        law("bars if 1=1", -1);
        law("bars 1", 5);
        law("turns", 5);
        law("says if 1=1", 5);
        law("if 1=1", 0);
        law("bars if", 7);
        law("bars if 1=1 if 1=1", 12);
        law("wander 0", 0);
        law("turns 1 times 2", 8);
    }

    private static void wordsOfLaws() {
        says("Words: \"child\" | \"age\" | \"lane\" | \"long\" | \"sight\" | \"corner\" | \"last\" | \"hour\" | \"mood\".");
        String[] words = {"child", "age", "lane", "long", "sight", "corner", "last", "hour", "mood"};
        LostLanes x = new LostLanes();
        x.lane(0, 4, 1, 1);
        x.lane(4, 6, 8, 3);
        x.child(1, 1);
        x.child(7, 0);
        x.wander(1);
        x.terms(0, 12);
        x.terms(2, 9);
        int[] ofLane = {1, 7, 1, 8, 3, 4, 0, 12, 9};
        int[] atCorner = {1, 7, -1, -1, -1, 4, 0, 12, 9};
        x.image(0);
        for (int i = 0; i < words.length; i++) {
            x.back(0);
            Boroughs.under(x, "says " + words[i]);
            due("says " + words[i], x.asks(1, 1, 0), ofLane[i]);
        }
        for (String word : new String[] {"done", "latest", "named", "kids", "at 0", "plate 0", "turns", "name"}) {
            law("turns " + word, 6);
        }
        says("\"turns\" is asked of a CHILD at a CORNER (lane, long, sight -1),");
        for (int i = 0; i < words.length; i++) {
            x.back(0);
            Boroughs.under(x, "turns 5 + " + words[i]);
            due("turns 5 + " + words[i], x.of(1, 3), 5 + atCorner[i]);
        }
        says("\"says\", \"bars\" of a CHILD and a LANE (corner: where the CHILD is);");
        for (int i = 0; i < words.length; i++) {
            x.back(0);
            Boroughs.under(x, "bars if " + words[i] + " = " + ofLane[i] + "; says 5 + " + words[i]);
            due("bars if " + words[i], x.asks(1, 1, 1), 1);
            due("says 5 + " + words[i], x.asks(1, 1, 0), 5 + ofLane[i]);
        }
        Boroughs.under(x, "says 10 + corner");
        x.lead(1, 2);
        due("where the child is, far from the lane", x.asks(1, 1, 0), 12);
        says("last: the LANE it went LAST, -1 without;");
        Boroughs.under(x, "turns 5 + last");
        due("of a child that went along none", x.of(0, 3), 4);
        due("of a child that went along lane 0", x.of(1, 3), 5);
        says("hour: HOUR as it is then.");
        Boroughs.under(x, "turns hour");
        due("at 12", x.of(0, 3), 12);
        x.pass();
        due("at 13", x.of(0, 3), 13);
        x.terms(0, 99);
        due("at 99", x.of(0, 3), 99);
    }

    private static void holds() {
        says("A CLAUSE HOLDS, if its \"if\" (if it has one) is so,");
        turned("5", 5);
        turned("5 if 1=1", 5);
        turned("5 if 1=2", 77);
        says("and neither that nor its SUM is BROKEN.");
        turned("5 if 1/0=1", 77);
        turned("5 if not 1/0=1", 77);
        turned("5/0", 77);
        turned("5/0 if 1=1", 77);
        LostLanes x = Boroughs.under(alone(0), "bars if 1/0=0; says 9; says 1/0; says 8 if 1/0=0");
        due("bars", x.asks(0, 0, 1), 0);
        due("says", x.asks(0, 0, 0), 9);
    }

    private static void turnsSaysBars() {
        says("A CHILD TURNS to 0 .. 99 as the last \"turns\" that HOLDS tells (else the nearest),");
        turned("99", 99);
        turned("100", 99);
        turned("0-1", 0);
        turned("5; turns 6", 6);
        turned("5; turns 6 if 1=2", 5);
        turned("5; says 6; bars", 5);
        says("0 without;");
        due("no turns", Boroughs.under(alone(0), "says 6; bars").of(0, 3), 0);
        due("no turns that holds", Boroughs.under(alone(0), "turns 6 if 1=2; turns 6/0").of(0, 3), 0);
        says("it SAYS 0 .. 19 of a LANE,");
        int[][] sayings = {{0, 0}, {1, 1}, {19, 19}, {20, 19}, {1000, 19}};
        for (int[] s : sayings) {
            due("says " + s[0], Boroughs.under(alone(0), "says 7; says " + s[0]).asks(0, 3, 0), s[1]);
        }
        due("says 0 - 1", Boroughs.under(alone(0), "says 7; says 0 - 1").asks(0, 3, 0), 0);
        due("the last that holds", Boroughs.under(alone(0), "says 7; says 8; says 9 if 1=2").asks(0, 3, 0), 8);
        says("its SIGHT without;");
        LostLanes x = Boroughs.under(alone(0), "turns 6; bars; says 9 if lane = 0");
        for (int lane = 1; lane < 4; lane++) {
            due("of lane " + lane, x.asks(0, lane, 0), lane + 1);
        }
        says("it is BARRED from a LANE, if \"bars\" HOLDS.");
        LostLanes y = Boroughs.under(alone(0), "bars if lane = 0; bars if lane = 2; turns 1; says 1");
        for (int lane = 0; lane < 4; lane++) {
            due("from lane " + lane, y.asks(0, lane, 1), lane % 2 == 0 ? 1 : 0);
        }
        due("without an if", Boroughs.under(alone(0), "bars").asks(0, 1, 1), 1);
    }

    // Terms II, ORDERS

    private static void orders() {
        says("ORDERS: CLAUSE: (\"wander\" SUM | \"cry\" SUM | \"lead\" SUM \"to\" SUM | \"pass\") [\"times\" TIMES] "
                + "[\"if\" TEST].");
        orders("wander 0 times 2 if 1=2", -1);
        orders("cry 0 times 2 if 1=2", -1);
        orders("lead 0 to 1 times 2 if 1=2", -1);
        orders("pass times 2 if 1=2", -1);
        orders("pass if 1=2 times 2", 12);
        orders("wander", 6);
        orders("cry if 1=1", 4);
        orders("lead 0", 6);
        orders("lead to 1", 5);
        orders("lead 0 1", 7);
        orders("lead 0 to if 1=1", 10);
        orders("pass 1", 5);
        orders("wander 0 to 1", 9);
        orders("turns 1", 0);
        says("(a CHILD; a CHILD; a CHILD, a CORNER; an HOUR.)");
        LostLanes x = alone(0);
        x.child(1, 2);
        ran(x, "wander 1", 1);
        due("the child 1 wandered", x.of(1, 1), 1);
        due("the child 0 did not", x.of(0, 1), 0);
        ran(x, "cry 1", 1);
        due("the lane it went last", x.at(1, 4), 2);
        ran(x, "lead 1 to 7", 1);
        due("the corner", x.of(1, 1), 7);
        due("the hour", x.count(13), 0);
        ran(x, "pass", 1);
        due("the hour", x.count(13), 1);
        due("all wander", x.of(0, 1), 1);
        says("TIMES: a NUMBER 1 .. 20.");
        due("times 1", Due.orders(new LostLanes(), "pass times 1"), 1);
        due("times 20", Due.orders(new LostLanes(), "pass times 20"), 20);
        orders("pass times 0", 11);
        orders("pass times 21", 11);
        orders("pass times hour", 11);
        orders("pass times [1]", 11);
    }

    private static void wordsOfOrders() {
        says("Words: \"hour\" | \"done\" | \"latest\" | \"named\" | \"kids\" | \"at\" C | \"plate\" L (C: a NUMBER 0 .. 3, "
                + "L: 0 .. 9).");
        for (String word : new String[] {"hour", "done", "latest", "named", "kids", "at 0", "at 3", "plate 0", "plate 9"}) {
            orders("pass if 1000 < " + word, -1);
        }
        orders("pass if at 4 = 1", 11);
        orders("pass if at = 1", 11);
        orders("pass if at [1] = 1", 11);
        orders("pass if plate 10 = 1", 14);
        orders("pass if plate hour = 1", 14);
        for (String word : new String[] {"child", "age", "lane", "long", "sight", "corner", "last", "mood", "to"}) {
            orders("pass if " + word + " = 1", 8);
        }
        says("C, L, TIMES aside, NUMBERS and words count as PARTS.");
        String fifty = "pass times 20 if at 0" + "+at 3".repeat(24) + "+plate 9".repeat(23) + "+hour=1";
        orders(fifty, -1);
        orders(fifty + ";pass times 3", -1);
        orders(fifty + "+1", fifty.length() + 1);
        orders(fifty + "+at 0", fifty.length() + 1);
        orders(fifty + ";cry 0", fifty.length() + 5);
    }

    private static void runOfOrders() {
        says("Run CLAUSE by CLAUSE, each as often as TIMES tell (once without);");
        LostLanes x = alone(0);
        ran(x, "lead 0 to 5; lead 0 to 6; pass times 3; lead 0 to 7", 6);
        due("led by the last", x.of(0, 1), 7);
        due("three hours", x.count(13), 3);
        int[] kinds = {2, 3, 3, 3, 2, 2};
        for (int kind : kinds) {
            due("undo(), the latest first", x.undo(), kind);
        }
        says("each time its \"if\" is asked (not run, if it is not so or BROKEN),");
        ran(x, "pass times 20 if hour < 3", 3);
        due("three hours", x.count(13), 3);
        ran(x, "pass if 1=2; pass; pass if 1/0=1", 1);
        ran(x, "wander 9 if 1=2; cry 9 if 1/0=1", 0);
        says("then its SUMS from the left.");
        ran(x, "wander 1/0 if 1=2; lead 1/0 to 1/0 if 1/0=0", 0);
        ran(x, "lead 0 to at 0 + 1 times 5", 5);
        due("asked anew each time", x.of(0, 1), 5);
        ran(x, "lead kids - 1 to kids", 1);
        due("the child from the left, then the corner", x.of(0, 1), 1);
    }

    private static void wordsAsTheyRun() {
        says("done: how many were run in this TEXT,");
        LostLanes x = alone(0);
        x.child(1, 6);
        ran(x, "pass if done = 0; pass times 2 if done > 0; pass if 1=2; lead 1 to done + 1", 4);
        due("three were run ahead", x.of(1, 1), 4);
        ran(x, "pass if done = 0", 1);
        says("latest: what the latest cry in it told (-1: none),");
        LostLanes y = alone(0);
        y.child(1, 6);
        ran(y, "wander 0 if latest = 0 - 1; cry 0; lead 1 to latest + 4; lead 0 to 2; wander 0; cry 0; lead 1 to latest", 7);
        due("the name of lane 1 at last", y.of(1, 1), 2);
        due("lane 1 has it", y.at(1, 4), 2);
        ran(y, "pass if latest = 0 - 1", 1);
        says("named: how many LANES have NAMES,");
        ran(y, "pass if named = 2; pass if named = 1", 1);
        ran(x, "pass if named = 0; cry 0; pass if named = 1", 3);
        says("kids: how many CHILDREN there are,");
        ran(y, "pass if kids = 2", 1);
        due("none", Due.orders(new LostLanes(), "pass if kids = 0"), 1);
        says("at: the CORNER of a CHILD,");
        LostLanes z = Boroughs.plated(new int[] {0, 1, 1, 19}, new int[] {1, 2, 1, 0}, new int[] {2, 3, 1, -1});
        z.child(1, 4);
        ran(z, "lead 0 to at 1 - 2; pass if at 0 = 2 and at 1 = 4", 2);
        says("plate: the NAME of a LANE (-1: none);");
        ran(z, "pass if plate 0 = 19 and plate 1 = 0 and plate 2 = 0 - 1", 1);
        ran(alone(0), "pass if plate 0 = 0 - 1; cry 0; pass times 2 if plate 0 = 1; pass if plate 0 < 0", 4);
        says("-1 without such a CHILD, LANE.");
        ran(z, "pass if at 2 = 0 - 1 and at 3 = 0 - 1 and plate 3 = 0 - 1 and plate 9 = 0 - 1", 1);
    }

    private static void ordersThatCannotBe() {
        says("One that can't be (a BROKEN SUM, as wander(), cry(), lead(), pass() are REFUSED) ends it:");
        String[] cannot = {"wander 1/0", "cry 1/0", "lead 1/0 to 1", "lead 0 to 1/0", "wander 1", "wander 0 - 1", "cry 1",
            "cry 0", "lead 0 to 8", "lead 0 to 0 - 1", "lead 1 to 0", "lead 0 to at 0", "wander 0", "pass times 2"};
        for (String order : cannot) {
            LostLanes x = Boroughs.with(Boroughs.line(1), 5);
            x.terms(0, 998);
            ran(x, "lead 0 to 6; " + order + "; lead 0 to 7", -3);
            due(order + ": stopped()", x.stopped(), 1);
        }
        says("all is as it was ahead of it.");
        LostLanes x = alone(0);
        x.wander(0);
        x.hear(3);
        ran(x, "cry 0; wander 0; cry 0; lead 0 to 6; pass times 20; cry 5", -3);
        due("the corner", x.of(0, 1), 1);
        due("last", x.of(0, 2), 0);
        due("names", x.count(2), 0);
        due("the hour", x.count(13), 0);
        due("what can be undone", x.count(5), 1);
        due("undo()", x.undo(), 0);
        due("the corner ahead of that", x.of(0, 1), 0);
    }
}
