import java.io.IOException;
import java.nio.file.Files;
import java.nio.file.Path;
import java.util.HashMap;
import java.util.List;
import java.util.Map;
import java.util.regex.Matcher;
import java.util.regex.Pattern;

/** What stands ahead of the promises: what it is, the public face, the terms that no promise alone rests on. */
final class FrontBoundaries {
    private static final Path PROGRAM = Path.of("src/main/java/WinnowedGuilt.java");
    private static final int MOST_CALLS = 512;
    private static final String LIGHT_IN_THE_FIFTH_HOUR = "WP0H0H1H2H3H4H5G4000";
    /** A wipe, its letters, and the floor itself. */
    private static final int CALLS_OF_A_FLOOR = LIGHT_IN_THE_FIFTH_HOUR.length() + 2;

    private FrontBoundaries() {
    }

    @Says(promise = 0, words = "An object is used for at most 512 calls after it has been made")
    static void allCallsOfAnObjectAnswer() {
        WinnowedGuilt x = Due.floor(LIGHT_IN_THE_FIFTH_HOUR);
        int clock = 0;
        for (int call = CALLS_OF_A_FLOOR + 1; call <= MOST_CALLS; call++) {
            clock++;
            Due.is("calm() as call " + call, x.calm(), clock % 6);
        }
    }

    @Says(promise = 0, words = "An object is used for at most 512 calls after it has been made")
    static void theLastCallMayBeAnyOne() {
        Due.is("count(4)", old().count(4), 489);
        Due.is("toss(0)", old().toss(0), 0);
        Due.is("undo()", old().undo(), 13);
        Due.is("best(4, true)", old().best(4, true), 10440);
        Due.is("when(0)", old().when(0), 1);
        Due.is("years(30)", old().years(30), 4);
        Due.is("keep(1)", old().keep(1), 489);
        Due.is("floor()", old().floor(), 161);
        Due.is("wipe()", old().wipe(), 20);
    }

    /** An object that has had all of its calls but one: its clock is 489, the wind 3. */
    private static WinnowedGuilt old() {
        return Due.floor(LIGHT_IN_THE_FIFTH_HOUR, MOST_CALLS - 1 - CALLS_OF_A_FLOOR);
    }

    @Says(promise = 0, words = "public final class WinnowedGuilt {")
    static void theFaceStandsAsTheDocumentTellsIt() throws IOException {
        List<String> want = Document.read().face();
        List<String> got = Document.declarations(Files.readString(PROGRAM));
        Due.is("declarations of the document", want.size(), 30);
        Due.is("declarations of the program", got.size(), want.size());
        for (int i = 0; i < Math.min(got.size(), want.size()); i++) {
            Due.holds("'" + got.get(i) + "' is '" + want.get(i) + "'", got.get(i).equals(want.get(i)));
        }
    }

    @Says(promise = 0, words = "the interface says: ---- the floor.")
    static void headingsStandAheadOfTheirCalls() throws IOException {
        Map<String, String> want = Document.read().headings();
        Map<String, String> got = new HashMap<>();
        String heading = "";
        Matcher row = Pattern.compile("(?m)^ {4}(?:// (---- .*)|public (?:int|long) (\\w+)\\(.*)$")
                .matcher(Files.readString(PROGRAM));
        while (row.find()) {
            heading = row.group(1) != null ? row.group(1) : heading;
            if (row.group(2) != null) {
                got.merge(heading, row.group(2), (one, other) -> one + ", " + other);
            }
        }
        Due.is("headings of the document", want.size(), 6);
        Due.holds("headings " + got + " are " + want, got.equals(want));
    }

    @Says(promise = 0, words = "UNKNOWN = -1, OUTSIDE = -2, STATE = -3, FULL = -4, NONE = -9;")
    static void constantsAreWhatCallsAnswer() {
        WinnowedGuilt x = new WinnowedGuilt();
        Due.is("toss(0)", x.toss(0), WinnowedGuilt.UNKNOWN);
        Due.is("write(256)", x.write(256), WinnowedGuilt.OUTSIDE);
        Due.is("floor()", x.floor(), WinnowedGuilt.STATE);
        Due.write(x, "W".repeat(56));
        Due.is("write('W')", x.write('W'), WinnowedGuilt.FULL);
        Due.is("chosen()", x.chosen(), WinnowedGuilt.NONE);
    }

    @Says(promise = 0, words = "each has a PLACE of its number, in a row")
    static void placesAreTheNumbersOfPeople() {
        WinnowedGuilt x = Due.floor("WP0H1P3P1G1020P2G9133");
        for (int place = 0; place < 4; place++) {
            Due.is("person(" + place + ", 3)", x.person(place, 3), place == 0 ? 1 : place == 3 ? 2 : 0);
        }
        for (int place = 0; place < 3; place++) {
            Due.is("toss(" + place + ")", x.toss(place), 1);
            Due.is("grain(0, 3)", x.grain(0, 3), place + 1);
        }
        Due.is("toss(3)", x.toss(3), 1);
        Due.is("count(8)", x.count(8), 1);
        Due.is("count(9)", x.count(9), 2);
    }

    @Says(promise = 0, words = "FRACTIONS are told above (upper = true; below 0, if they are), below (1 and more), in least terms")
    static void noughtAndOneAreFractionsInLeastTermsToo() {
        WinnowedGuilt x = Due.floor("WP0P0P0P0H9G9200");
        Due.is("share(0, true)", x.share(0, true), 0);
        Due.is("share(0, false)", x.share(0, false), 1);
        Due.is("gust(0, 5, 7, true)", x.gust(0, 5, 7, true), 0);
        Due.is("gust(0, 5, 7, false)", x.gust(0, 5, 7, false), 1);
        WinnowedGuilt sure = Due.floor("WP0H9G1000");
        Due.is("sure: gust(0, 5, 7, true)", sure.gust(0, 5, 7, true), 1);
        Due.is("sure: gust(0, 5, 7, false)", sure.gust(0, 5, 7, false), 1);
    }
}
