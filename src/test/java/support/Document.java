import java.io.IOException;
import java.nio.file.Files;
import java.nio.file.Path;
import java.util.function.IntUnaryOperator;

/**
 * The document's own words, said one behind the other: a test that says them from a place on to another one leaves
 * none out, and shows each by one check at least, unless it says that no answer can show it.
 */
final class Document {
    private static String text = "";
    private static int place;
    private static String words = "";
    private static int checksAhead;

    private Document() {
    }

    /** The words from there on are to be said, those of "until" not ("": to the document's end). */
    static void open(String from, String until) throws IOException {
        String all = Files.readString(Path.of("../shared/DOC.md")).replaceAll("(?m)^```.*$", "").replaceAll("\\s+", " ").trim();
        int begin = all.indexOf(from);
        int end = until.isEmpty() ? all.length() : all.indexOf(until, Math.max(0, begin));
        Due.due("The document", "has \"" + from + "\" .. \"" + until + "\"", begin >= 0 && end >= begin ? 1 : 0, 1);
        text = all.substring(Math.max(0, begin), Math.max(Math.max(0, begin), end));
    }

    /** Words that the checks behind it show. */
    static void says(String said) {
        leave();
        go(said);
        words = said;
        checksAhead = Due.checks();
    }

    /** Words that no answer can show: headings, and what is free. */
    static void shownByNone(String said) {
        leave();
        go(said);
    }

    /** All up to those words, which the checks behind it show. */
    static String saysUpTo(String until) {
        int end = text.indexOf(until, place);
        String said = text.substring(place, Math.max(place, end)).trim();
        says(said);
        return said;
    }

    static void due(String call, long got, long want) {
        Due.due("\"" + words + "\"", call, got, want);
    }

    static void within(int least, int most, IntUnaryOperator call, IntUnaryOperator told, int refused) {
        Due.within("\"" + words + "\"", least, most, call, told, refused);
    }

    static void close() {
        leave();
        Due.due("The document", "what was not said: \"" + text.substring(place) + "\"", text.length() - place, 0);
        Due.close();
    }

    private static void leave() {
        if (!words.isEmpty() && Due.checks() == checksAhead) {
            Due.due("The document", "checks of \"" + words + "\"", 0, 1);
        }
        words = "";
    }

    private static void go(String said) {
        boolean follows = text.startsWith(said, place);
        String there = text.substring(place, Math.min(text.length(), place + 60));
        Due.due("The document", "goes on \"" + said + "\" (it does by \"" + there + "\")", follows ? 1 : 0, 1);
        if (follows) {
            place += said.length();
            if (place < text.length() && text.charAt(place) == ' ') {
                place++;
            }
        }
    }
}
