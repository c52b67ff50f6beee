/** Boundary cases of promises 1 to 7: a new object, the text, the floor, people and grains. */
final class FloorBoundaries {
    /** As many letters, people, hours and grains as there can be. */
    private static final String LARGEST = "WP0P1P2P3H5H6H7H8H9H1G1000G2111G3222G4333G5010G6102G9231";

    private FloorBoundaries() {
    }

    private static WinnowedGuilt withText(String text) {
        WinnowedGuilt x = new WinnowedGuilt();
        Due.write(x, text);
        return x;
    }

    private static void fault(String text, int want) {
        Due.is("fault() of '" + text + "'", withText(text).fault(), want);
    }

    private static void whole(String text) {
        fault(text, Due.NONE);
    }

    // ---- promise 1

    @Says(promise = 1, words = "Nobody, nothing.")
    static void newObjectHasNothing() {
        WinnowedGuilt x = new WinnowedGuilt();
        for (int what = 0; what <= 12; what++) {
            Due.is("count(" + what + ")", x.count(what), what == 6 ? Due.NONE : 0);
        }
        Due.is("person(0, 0)", x.person(0, 0), Due.UNKNOWN);
        Due.is("grain(0, 0)", x.grain(0, 0), Due.UNKNOWN);
        Due.is("chosen()", x.chosen(), Due.NONE);
    }

    @Says(promise = 1, words = "At first there is nobody, nothing.")
    static void newObjectRefusesWhatNeedsSomebody() {
        WinnowedGuilt x = new WinnowedGuilt();
        Due.is("toss(0)", x.toss(0), Due.UNKNOWN);
        Due.is("pick(0)", x.pick(0), Due.UNKNOWN);
        Due.is("fan(0)", x.fan(0), Due.UNKNOWN);
        Due.is("undo()", x.undo(), Due.STATE);
        Due.is("fewest(0)", x.fewest(0), Due.UNKNOWN);
        Due.is("when(0)", x.when(0), Due.UNKNOWN);
        Due.is("votes(0)", x.votes(0), Due.UNKNOWN);
        Due.is("share(0, true)", x.share(0, true), Due.UNKNOWN);
        Due.is("rests(0, 1, 0)", x.rests(0, 1, 0), Due.UNKNOWN);
        Due.is("gust(0, 1, 0, true)", x.gust(0, 1, 0, true), Due.UNKNOWN);
        Due.is("years(30)", x.years(30), 0);
    }

    @Says(promise = 1, words = "THE CLOCK is 0, nobody holds the FAN, when THE FLOOR is made anew.")
    static void newObjectsClockGoesOnFromNought() {
        WinnowedGuilt x = new WinnowedGuilt();
        Due.is("keep(0)", x.keep(0), 0);
        Due.is("count(6)", x.count(6), Due.NONE);
        x.calm();
        Due.is("count(4) behind a wait", x.count(4), 1);
    }

    @Says(promise = 1, words = "6 such at most, none at first")
    static void newObjectHasSeenNothing() {
        WinnowedGuilt x = new WinnowedGuilt();
        Due.is("unsee()", x.unsee(), 0);
        Due.is("weights(0)", x.weights(0), 1022);
    }

    @Says(promise = 1, words = "x (THE SEED, a long; 0 at first)")
    static void newObjectsSeedIsNought() {
        Due.is("seed(9)", new WinnowedGuilt().seed(9), 0);
    }

    @Says(promise = 1, words = "Nobody, nothing.")
    static void newObjectHasNothingOfAnother() {
        Twins.busy();
        newObjectHasNothing();
        Due.is("seed(1)", new WinnowedGuilt().seed(1), 0);
        Due.is("again(0)", new WinnowedGuilt().again(0), Due.STATE);
        Due.is("again(1)", new WinnowedGuilt().again(1), Due.STATE);
    }

    @Says(promise = 1, words = "NONE is -9.")
    static void constantsAreTold() {
        Due.is("UNKNOWN", WinnowedGuilt.UNKNOWN, -1);
        Due.is("OUTSIDE", WinnowedGuilt.OUTSIDE, -2);
        Due.is("STATE", WinnowedGuilt.STATE, -3);
        Due.is("FULL", WinnowedGuilt.FULL, -4);
        Due.is("NONE", WinnowedGuilt.NONE, -9);
    }

    // ---- promise 2

    @Says(promise = 2, words = "A letter (0 to 255) comes behind THE TEXT")
    static void leastAndMostLetterAreTaken() {
        WinnowedGuilt x = new WinnowedGuilt();
        Due.is("write(0)", x.write(0), 1);
        Due.is("write(255)", x.write(255), 2);
        Due.is("write(127)", x.write(127), 3);
        Due.is("write(128)", x.write(128), 4);
        Due.is("count(0)", x.count(0), 4);
    }

    @Says(promise = 2, words = "OUTSIDE; FULL: there are 56.")
    static void lettersOutsideAreRefused() {
        Twins.leaves("write(-1)", x -> x.write(-1), Due.OUTSIDE);
        Twins.leaves("write(256)", x -> x.write(256), Due.OUTSIDE);
        Twins.leaves("write(least)", x -> x.write(Integer.MIN_VALUE), Due.OUTSIDE);
        Twins.leaves("write(most)", x -> x.write(Integer.MAX_VALUE), Due.OUTSIDE);
        // Its lower eight bits would be a P.
        Twins.leaves("write(336)", () -> withText("W"), x -> x.write(256 + 'P'), Due.OUTSIDE);
    }

    @Says(promise = 2, words = "how long it is")
    static void eachLetterMakesTheTextLongerByOne() {
        WinnowedGuilt x = new WinnowedGuilt();
        for (int i = 0; i < 56; i++) {
            Due.is("write no. " + (i + 1), x.write(LARGEST.charAt(i)), i + 1);
        }
        Due.is("floor() of 56 letters", x.floor(), 467);
        Due.is("the last letter counts", x.grain(6, 3), 1);
    }

    @Says(promise = 2, words = "FULL: there are 56.")
    static void letterBehindTheLastIsRefused() {
        WinnowedGuilt x = withText(LARGEST.substring(0, 55));
        Due.is("the 56th", x.write('1'), 56);
        Due.is("the 57th", x.write('P'), Due.FULL);
        Due.is("count(0)", x.count(0), 56);
        Twins.leaves("the 57th", () -> withText(LARGEST), y -> y.write('P'), Due.FULL);
        Due.is("wipe()", x.wipe(), 56);
        Due.is("the first anew", x.write('W'), 1);
    }

    @Says(promise = 2, words = "REFUSALS, of several the first that a call names")
    static void outsideComesAheadOfFull() {
        Twins.leaves("write(256) when full", () -> withText(LARGEST), x -> x.write(256), Due.OUTSIDE);
        Twins.leaves("write(-1) when full", () -> withText(LARGEST), x -> x.write(-1), Due.OUTSIDE);
    }

    // ---- promise 3

    @Says(promise = 3, words = "THE TEXT is empty: how long it was.")
    static void wipeOfEmptyAndFullText() {
        WinnowedGuilt x = new WinnowedGuilt();
        Due.is("wipe() of nothing", x.wipe(), 0);
        Due.write(x, LARGEST);
        Due.is("wipe() of a full text", x.wipe(), 56);
        Due.is("wipe() again", x.wipe(), 0);
        Due.is("count(0)", x.count(0), 0);
    }

    @Says(promise = 3, words = "THE TEXT is empty")
    static void nothingOfTheOldTextIsLeft() {
        WinnowedGuilt x = withText("WP9H1");
        x.wipe();
        Due.is("fault() of nothing", x.fault(), 0);
        x.write('W');
        Due.is("fault() of W alone", x.fault(), Due.NONE);
        x.write('P');
        Due.is("fault() of WP", x.fault(), 2);
    }

    @Says(promise = 3, words = "THE TEXT is empty")
    static void wipeLeavesTheFloor() {
        Twins.leaves("wipe(), then the text again", x -> {
            int was = x.wipe();
            for (char letter : (Twins.ALL + "P").toCharArray()) {
                x.write(letter);
            }
            return was;
        }, 51);
    }

    // ---- promise 4

    @Says(promise = 4, words = "THE TEXT is letters (56 at most).")
    static void largestTextIsWhole() {
        whole(LARGEST);
        whole("WP3P3P3P3H9H9H9H9H9H9G9333G9333G9333G9333G9333G9333G9333");
    }

    @Says(promise = 4, words = "A FLOOR is a TEXT: W, then PARTS, none or more")
    static void floorBeginsWithOneW() {
        whole("W");
        whole("WP0");
        fault("w", 0);
        fault("V", 0);
        fault("X", 0);
        fault("P0", 0);
        fault("" + (char) 0, 0);
        fault("" + (char) 255, 0);
        fault("WW", 1);
        fault("WP0W", 3);
    }

    @Says(promise = 4, words = "W, then PARTS, none or more")
    static void otherLettersBeginNoPart() {
        for (char letter : "pgh0OQFIWX @".toCharArray()) {
            fault("WP0" + letter, 3);
        }
        fault("W" + (char) 0, 1);
        fault("W" + (char) 255, 1);
        fault("WP00", 3);
        fault("WH00", 3);
        fault("WP0G10000", 8);
    }

    @Says(promise = 4, words = "PEOPLE (4 at most;")
    static void fourPeopleAndNoFifth() {
        whole("WP0P0P0P0");
        fault("WP0P0P0P0P", 9);
        fault("WP0P0P0P0P0", 9);
        fault("WP0P0P0H0P0P0", 11);
    }

    @Says(promise = 4, words = "HOURS (6 at most)")
    static void sixHoursAndNoSeventh() {
        whole("WH0H0H0H0H0H0");
        fault("WH0H0H0H0H0H0H", 13);
        fault("WH0H0H0H0H0P0H0H0", 15);
    }

    @Says(promise = 4, words = "GRAINS (7 at most)")
    static void sevenGrainsAndNoEighth() {
        whole("WP0G1000G1000G1000G1000G1000G1000G1000");
        fault("WP0G1000G1000G1000G1000G1000G1000G1000G", 38);
        fault("WP0G1000G1000G1000G1000G1000G1000G1000G1000", 38);
    }

    @Says(promise = 4, words = "are numbered as they are told, each for itself")
    static void partsComeInAnyOrder() {
        whole("WH0P0G1000H1P1G1010");
        whole("WP0H9G9300P3");
    }

    @Says(promise = 4, words = "a PERSON of KIND k: 0 PLAIN, 1 BOY, 2 SIEVER, 3 MILLER")
    static void kindsOfPeople() {
        whole("WP0P1P2P3");
        fault("WP4", 2);
        fault("WP/", 2);
        fault("WP9", 2);
        fault("WPP", 2);
        fault("WP" + (char) 0, 2);
        fault("WP" + (char) 255, 2);
    }

    @Says(promise = 4, words = "an HOUR with a WIND of v (0 to 9)")
    static void leastAndMostWind() {
        whole("WH0");
        whole("WH9");
        fault("WH/", 2);
        fault("WH:", 2);
        fault("WHH", 2);
        fault("WH" + (char) 0, 2);
        fault("WH" + (char) 255, 2);
    }

    @Says(promise = 4, words = "a GRAIN of WEIGHT w (1 to 9)")
    static void leastAndMostWeight() {
        whole("WP0G1000");
        whole("WP0G9000");
        fault("WP0G0000", 4);
        fault("WP0G:000", 4);
        fault("WP0G/000", 4);
        fault("WP0GG", 4);
    }

    @Says(promise = 4, words = "of KIND k: 0 PLAIN, 1 HUSK, 2 SEED, 3 TARE")
    static void kindsOfGrains() {
        whole("WP0G1000G1100G1200G1300");
        fault("WP0G1400", 5);
        fault("WP0G1/00", 5);
        fault("WP0G1G", 5);
    }

    @Says(promise = 4, words = "that is a deed of PERSON o, and lies at PLACE p (o, p told ahead)")
    static void whoseDeedIsToldAhead() {
        whole("WP0P0P0P0G1030");
        fault("WP0P0P0P0G1040", 12);
        fault("WP0P0P0G1030", 10);
        fault("WP0P0G1020", 8);
        fault("WP0G1010", 6);
        fault("WP0G1010P0", 6);
        fault("WP0G10/0", 6);
        whole("WP0P0G1010");
    }

    @Says(promise = 4, words = "lies at PLACE p (o, p told ahead)")
    static void placeIsToldAhead() {
        whole("WP0P0P0P0G1003");
        fault("WP0P0P0P0G1004", 13);
        fault("WP0P0P0G1003", 11);
        fault("WP0P0G1002", 9);
        fault("WP0G1001", 7);
        fault("WP0G1001P0", 7);
        fault("WP0G100/", 7);
        whole("WP0P0G1001");
    }

    @Says(promise = 4, words = "the place of the first letter by which THE TEXT can be no FLOOR, whatever came behind it")
    static void grainWithNobodyAheadIsAFaultAtOnce() {
        fault("WG", 1);
        fault("WG1000", 1);
        fault("WH1G", 3);
        fault("WH1G1000P0", 3);
    }

    @Says(promise = 4, words = "the place of the first letter by which THE TEXT can be no FLOOR, whatever came behind it")
    static void firstOfSeveralFaults() {
        fault("XWP0", 0);
        fault("WP4P5", 2);
        fault("WH1XP4", 3);
        fault("WP0G0999", 4);
        fault("WP0G1999", 5);
        fault("WP0G1099", 6);
    }

    @Says(promise = 4, words = "its length, if it is only not at its end")
    static void textThatIsOnlyNotAtItsEnd() {
        fault("", 0);
        fault("WP", 2);
        fault("WH", 2);
        fault("WP0G", 4);
        fault("WP0G1", 5);
        fault("WP0G10", 6);
        fault("WP0G100", 7);
        fault("WP0P0P0P", 8);
    }

    @Says(promise = 4, words = "(its length set aside)")
    static void almostFullTextIsOnlyNotAtItsEnd() {
        fault(LARGEST.substring(0, 55), 55);
        fault(LARGEST.substring(0, 52), 52);
        fault(LARGEST.substring(0, 55) + "4", 55);
        fault("WP" + "0".repeat(54), 3);
    }

    @Says(promise = 4, words = "FAULT; NONE.")
    static void faultChangesNothing() {
        // The text of a busy object ends with a fifth P.
        Twins.leaves("fault() of a fault", WinnowedGuilt::fault, 50);
        Twins.leaves("fault() of none", () -> {
            WinnowedGuilt x = Twins.busy();
            Due.write(x, "WP2H7");
            return x;
        }, WinnowedGuilt::fault, Due.NONE);
    }

    // ---- promise 5

    @Says(promise = 5, words = "100 times PEOPLE, 10 times HOURS, and GRAINS")
    static void leastAndMostFloor() {
        Due.is("floor() of W", withText("W").floor(), 0);
        Due.is("floor() of four people", withText("WP0P0P0P0").floor(), 400);
        Due.is("floor() of six hours", withText("WH0H0H0H0H0H0").floor(), 60);
        Due.is("floor() of seven grains", withText("WP0G1000G1000G1000G1000G1000G1000G1000").floor(), 107);
        Due.is("floor() of the largest", withText(LARGEST).floor(), 467);
    }

    @Says(promise = 5, words = "STATE: a FAULT.")
    static void faultIsRefused() {
        Twins.leaves("floor() of ALL and P", WinnowedGuilt::floor, Due.STATE);
        for (String text : new String[] {"", "X", "WP", "WP4", "WH7P2G90", "WP0P0P0P0P0"}) {
            Twins.leaves("floor() of '" + text + "'", () -> {
                WinnowedGuilt x = Twins.busy();
                Due.write(x, text);
                return x;
            }, WinnowedGuilt::floor, Due.STATE);
        }
    }

    @Says(promise = 5, words = "THE ROW of ACTS is empty")
    static void newFloorHasNoActs() {
        WinnowedGuilt x = Due.floor("WP0", 14);
        Due.is("count(11) ahead", x.count(11), 14);
        Due.is("floor()", x.floor(), 100);
        Due.is("count(11)", x.count(11), 0);
        Due.is("undo()", x.undo(), Due.STATE);
        Due.is("count(4)", x.count(4), 0);
    }

    @Says(promise = 5, words = "what was kept is gone")
    static void newFloorHasNothingKept() {
        WinnowedGuilt x = Due.floor("WP0");
        x.keep(0);
        x.keep(1);
        x.floor();
        Due.is("again(0)", x.again(0), Due.STATE);
        Due.is("again(1)", x.again(1), Due.STATE);
    }

    @Says(promise = 5, words = "SEEN, THE SEED stay")
    static void seenAndSeedStay() {
        WinnowedGuilt x = Due.floor("WP0");
        for (int i = 0; i < 6; i++) {
            x.see(0, 5, 1);
        }
        x.seed(Long.MIN_VALUE);
        x.floor();
        Due.is("count(12)", x.count(12), 6);
        Due.is("weights(0)", x.weights(0), 56);
        Due.is("seed(0)", x.seed(0), Long.MIN_VALUE);
    }

    @Says(promise = 5, words = "THE CLOCK is 0, nobody holds the FAN, when THE FLOOR is made anew.")
    static void clockAndFanAnew() {
        WinnowedGuilt x = Due.floor("WP0P0H3H7G3010");
        x.fan(1);
        x.toss(0);
        Due.is("count(4) ahead", x.count(4), 1);
        Due.is("floor() of the same text", x.floor(), 221);
        Due.is("count(4)", x.count(4), 0);
        Due.is("count(5)", x.count(5), 3);
        Due.is("count(6)", x.count(6), Due.NONE);
        Due.is("grain(0, 3)", x.grain(0, 3), 0);
        Due.is("person(1, 1)", x.person(1, 1), 3);
    }

    @Says(promise = 5, words = "THE TEXT is THE FLOOR")
    static void nothingOfALargerFloorIsLeft() {
        WinnowedGuilt x = Due.floor(LARGEST);
        Due.write(x, "WP3");
        Due.is("floor()", x.floor(), 100);
        Due.is("person(0, 0)", x.person(0, 0), 3);
        Due.is("person(0, 3)", x.person(0, 3), 0);
        Due.is("person(1, 0)", x.person(1, 0), Due.UNKNOWN);
        Due.is("grain(0, 0)", x.grain(0, 0), Due.UNKNOWN);
        Due.is("count(5)", x.count(5), 0);
        Due.write(x, "W");
        Due.is("floor() of W", x.floor(), 0);
        Due.is("person(0, 0)", x.person(0, 0), Due.UNKNOWN);
        Due.is("count(10)", x.count(10), 0);
    }

    @Says(promise = 5, words = "THE TEXT is THE FLOOR")
    static void textIsNotUsedUp() {
        WinnowedGuilt x = Due.floor(LARGEST);
        Due.is("count(0)", x.count(0), 56);
        Due.is("floor() again", x.floor(), 467);
        x.wipe();
        Due.is("the floor stays when the text goes", x.count(3), 7);
        x.write('W');
        Due.is("and when another comes", x.grain(6, 0), 9);
        Due.is("till it is the floor", x.floor(), 0);
    }

    @Says(promise = 5, words = "are numbered as they are told, each for itself")
    static void numbersGoByKind() {
        WinnowedGuilt x = Due.floor("WH1P2G3000H4P1G5211");
        Due.is("person(0, 0)", x.person(0, 0), 2);
        Due.is("person(1, 0)", x.person(1, 0), 1);
        Due.is("grain(0, 0)", x.grain(0, 0), 3);
        Due.is("grain(1, 0)", x.grain(1, 0), 5);
        Due.is("count(5)", x.count(5), 1);
        Due.is("calm()", x.calm(), 4);
    }

    // ---- promise 6

    @Says(promise = 6, words = "UNKNOWN; OUTSIDE.")
    static void peopleThatAreNotThere() {
        Twins.leaves("person(-1, 0)", x -> x.person(-1, 0), Due.UNKNOWN);
        Twins.leaves("person(4, 0)", x -> x.person(4, 0), Due.UNKNOWN);
        Twins.leaves("person(least, 0)", x -> x.person(Integer.MIN_VALUE, 0), Due.UNKNOWN);
        Twins.leaves("person(most, 0)", x -> x.person(Integer.MAX_VALUE, 0), Due.UNKNOWN);
        for (int what = 0; what <= 5; what++) {
            Due.is("of two, person(2, " + what + ")", Due.floor("WP0P0").person(2, what), Due.UNKNOWN);
            Due.is("person(8, " + what + ")", Twins.busy().person(8, what), Due.UNKNOWN);
        }
    }

    @Says(promise = 6, words = "UNKNOWN; OUTSIDE.")
    static void nothingElseIsToldOfAPerson() {
        Twins.leaves("person(0, -1)", x -> x.person(0, -1), Due.OUTSIDE);
        Twins.leaves("person(0, 6)", x -> x.person(0, 6), Due.OUTSIDE);
        Twins.leaves("person(3, least)", x -> x.person(3, Integer.MIN_VALUE), Due.OUTSIDE);
        Twins.leaves("person(3, most)", x -> x.person(3, Integer.MAX_VALUE), Due.OUTSIDE);
    }

    @Says(promise = 6, words = "REFUSALS, of several the first that a call names: UNKNOWN (there is no such PERSON, GRAIN, SLOT), OUTSIDE")
    static void unknownPersonComesAheadOfOutside() {
        Due.is("person(4, 6)", Twins.busy().person(4, 6), Due.UNKNOWN);
        Due.is("person(-1, -1)", Twins.busy().person(-1, -1), Due.UNKNOWN);
    }

    @Says(promise = 6, words = "Of a PERSON its KIND (what = 0)")
    static void firstAndLastKind() {
        WinnowedGuilt x = Due.floor("WP0P1P2P3");
        for (int person = 0; person < 4; person++) {
            Due.is("person(" + person + ", 0)", x.person(person, 0), person);
        }
    }

    @Says(promise = 6, words = "LIFT at a PLACE: THE WIND, 2 more if its PERSON holds the FAN, 1 more for a BOY.")
    static void leastAndMostLiftAtAPlace() {
        WinnowedGuilt still = Due.floor("WP0P1P2P3H0");
        WinnowedGuilt storm = Due.floor("WP0P1P2P3H9");
        int[] least = {0, 1, 0, 0};
        int[] most = {11, 12, 11, 11};
        for (int person = 0; person < 4; person++) {
            Due.is("no wind: person(" + person + ", 1)", still.person(person, 1), least[person]);
            storm.fan(person);
            Due.is("wind 9, the fan: person(" + person + ", 1)", storm.person(person, 1), most[person]);
        }
        Due.is("who held it: person(1, 1)", storm.person(1, 1), 10);
        Due.is("who held it first: person(0, 1)", storm.person(0, 1), 9);
    }

    @Says(promise = 6, words = "THE WIND is that of the HOUR which is left of THE CLOCK by how many HOURS there are (0: there are none).")
    static void windWrapsInTheLift() {
        Due.is("no hours", Due.floor("WP0").person(0, 1), 0);
        Due.is("no hours, later", Due.floor("WP0", 7).person(0, 1), 0);
        Due.is("one hour, later", Due.floor("WP0H7", 7).person(0, 1), 7);
        Due.is("the last of six", Due.floor("WP0H1H2H3H4H5H6", 5).person(0, 1), 6);
        Due.is("the first again", Due.floor("WP0H1H2H3H4H5H6", 6).person(0, 1), 1);
        Due.is("a third day", Due.floor("WP0H1H2H3H4H5H6", 13).person(0, 1), 2);
    }

    @Says(promise = 6, words = "GUILT of a PERSON: WEIGHTS of what lies at its PLACE, together (HUSKS set aside).")
    static void leastAndMostGuilt() {
        Due.is("nothing lies there", Due.floor("WP0P0G9001").person(0, 2), 0);
        Due.is("seven of 9", Due.floor("WP0G9000G9200G9300G9000G9000G9000G9000").person(0, 2), 63);
        Due.is("husks alone", Due.floor("WP0G9100G9100").person(0, 2), 0);
        Due.is("one behind a husk", Due.floor("WP0G9100G2000").person(0, 2), 2);
        Due.is("another's deeds", Due.floor("WP0P0G4010").person(0, 2), 4);
        Due.is("whose deeds lie elsewhere", Due.floor("WP0P0G4010").person(1, 2), 0);
    }

    @Says(promise = 6, words = "GRAINS that lie there (3: bits)")
    static void noBitsAndAllBits() {
        Due.is("none", Due.floor("WP0P0G9001").person(0, 3), 0);
        WinnowedGuilt x = Due.floor("WP0H9G1000G1100G1200G9300G1000G1000G1000");
        Due.is("seven", x.person(0, 3), 127);
        // A seed never flies, nor does a tare of 9 by half of 9.
        x.toss(0);
        Due.is("what is gone lies there no more", x.person(0, 3), 12);
        WinnowedGuilt eaten = Due.floor("WP2G9100G9000");
        eaten.toss(0);
        Due.is("nor what is eaten", eaten.person(0, 3), 2);
    }

    @Says(promise = 6, words = "CLEAN is a PERSON at whose PLACE nothing lies but what is RIGHT.")
    static void cleanWithNothingOrItsOwn() {
        Due.is("nothing lies there", Due.floor("WP0").person(0, 4), 1);
        Due.is("its own alone", Due.floor("WP0G1000G9100").person(0, 4), 1);
        Due.is("another's", Due.floor("WP0P0G1010").person(0, 4), 0);
        Due.is("its own and another's", Due.floor("WP0P0G1000G1010").person(0, 4), 0);
        Due.is("another's husk", Due.floor("WP0P0G1110").person(0, 4), 0);
        Due.is("its own lie elsewhere", Due.floor("WP0P0G1010").person(1, 4), 1);
    }

    @Says(promise = 6, words = "WEIGHTS of its own deeds that lie there (5; HUSKS, too)")
    static void leastAndMostOwnWeight() {
        Due.is("nothing", Due.floor("WP0").person(0, 5), 0);
        Due.is("seven of 9, husks too", Due.floor("WP0G9000G9100G9200G9300G9100G9100G9100").person(0, 5), 63);
        WinnowedGuilt x = Due.floor("WP0P0G3000G4100G5010G6001");
        Due.is("neither another's nor what lies elsewhere", x.person(0, 5), 7);
        Due.is("one who has only another's", x.person(1, 5), 0);
    }

    // ---- promise 7

    @Says(promise = 7, words = "UNKNOWN; OUTSIDE.")
    static void grainsThatAreNotThere() {
        Twins.leaves("grain(-1, 0)", x -> x.grain(-1, 0), Due.UNKNOWN);
        Twins.leaves("grain(7, 0)", x -> x.grain(7, 0), Due.UNKNOWN);
        Twins.leaves("grain(least, 0)", x -> x.grain(Integer.MIN_VALUE, 0), Due.UNKNOWN);
        Twins.leaves("grain(most, 0)", x -> x.grain(Integer.MAX_VALUE, 0), Due.UNKNOWN);
        for (int what = 0; what <= 6; what++) {
            Due.is("of one, grain(1, " + what + ")", Due.floor("WP0P0G1000").grain(1, what), Due.UNKNOWN);
        }
    }

    @Says(promise = 7, words = "UNKNOWN; OUTSIDE.")
    static void nothingElseIsToldOfAGrain() {
        Twins.leaves("grain(0, -1)", x -> x.grain(0, -1), Due.OUTSIDE);
        Twins.leaves("grain(0, 7)", x -> x.grain(0, 7), Due.OUTSIDE);
        Twins.leaves("grain(6, least)", x -> x.grain(6, Integer.MIN_VALUE), Due.OUTSIDE);
        Twins.leaves("grain(6, most)", x -> x.grain(6, Integer.MAX_VALUE), Due.OUTSIDE);
    }

    @Says(promise = 7, words = "REFUSALS, of several the first that a call names: UNKNOWN (there is no such PERSON, GRAIN, SLOT), OUTSIDE")
    static void unknownGrainComesAheadOfOutside() {
        Due.is("grain(7, 7)", Twins.busy().grain(7, 7), Due.UNKNOWN);
        Due.is("grain(-1, -1)", Twins.busy().grain(-1, -1), Due.UNKNOWN);
    }

    @Says(promise = 7, words = "Of a GRAIN its WEIGHT (what = 0), KIND (1), whose deed it is (2), its PLACE (3;")
    static void leastAndMostOfAGrain() {
        WinnowedGuilt x = Due.floor("WP0P0P0P0G1000G9333");
        for (int what = 0; what <= 3; what++) {
            Due.is("grain(0, " + what + ")", x.grain(0, what), what == 0 ? 1 : 0);
            Due.is("grain(1, " + what + ")", x.grain(1, what), what == 0 ? 9 : 3);
        }
    }

    private static WinnowedGuilt goneAndEaten() {
        // Wind 9 carries the plain one behind the last place; the husk of 9 at the siever's is tossed in no wind.
        WinnowedGuilt x = Due.floor("WP2P0H0H9G9100G1011");
        x.toss(0);
        x.toss(1);
        x.fan(0);
        x.calm();
        return x;
    }

    @Says(promise = 7, words = "its PLACE (3; 8 GONE, 9 EATEN)")
    static void placeOfGoneAndEaten() {
        Due.is("eaten: grain(0, 3)", goneAndEaten().grain(0, 3), 9);
        Due.is("gone: grain(1, 3)", goneAndEaten().grain(1, 3), 8);
    }

    @Says(promise = 7, words = "LIFT of it (4; 0 if it lies nowhere)")
    static void liftOfWhatLiesNowhere() {
        WinnowedGuilt x = goneAndEaten();
        Due.is("the wind is 9", x.count(5), 9);
        Due.is("eaten: grain(0, 4)", x.grain(0, 4), 0);
        Due.is("gone: grain(1, 4)", x.grain(1, 4), 0);
    }

    @Says(promise = 7, words = "LIFT of a GRAIN: that at its PLACE (HUSK: 2 more; TARE: half of it, cut).")
    static void liftOfEachKind() {
        WinnowedGuilt x = Due.floor("WP0P1H4H0H9G1000G1100G1200G1300G1301G1101");
        int[] first = {4, 6, 4, 2, 2, 7};
        int[] still = {0, 2, 0, 0, 0, 3};
        int[] storm = {9, 11, 9, 4, 5, 12};
        int[] withFan = {9, 11, 9, 4, 6, 14};
        for (int grain = 0; grain < 6; grain++) {
            Due.is("wind 4: grain(" + grain + ", 4)", x.grain(grain, 4), first[grain]);
        }
        x.calm();
        for (int grain = 0; grain < 6; grain++) {
            Due.is("no wind: grain(" + grain + ", 4)", x.grain(grain, 4), still[grain]);
        }
        x.calm();
        for (int grain = 0; grain < 6; grain++) {
            Due.is("wind 9: grain(" + grain + ", 4)", x.grain(grain, 4), storm[grain]);
        }
        x.fan(1);
        for (int grain = 0; grain < 6; grain++) {
            Due.is("wind 9, the fan: grain(" + grain + ", 4)", x.grain(grain, 4), withFan[grain]);
        }
    }

    @Says(promise = 7, words = "It FLIES, if that is as much as its WEIGHT, or more")
    static void fliesByAsMuchAsItsWeight() {
        WinnowedGuilt x = Due.floor("WP0P0P0H5G6000G5000G4000G8100G7100G3300G2300");
        int[] then = {0, 1, 1, 0, 2, 0, 1};
        for (int grain = 0; grain < 7; grain++) {
            Due.is("grain(" + grain + ", 5)", x.grain(grain, 5), then[grain]);
        }
    }

    @Says(promise = 7, words = "by how much it is more by 3 (cut) and 1 PLACES on (HUSK: 1 more)")
    static void howFarItFlies() {
        // Of lift 8: by 2 more 1 place, by 3 and 5 more 2, by 6 and 7 more 3; a husk of lift 10 by 2 more 2, by 3 more 3.
        WinnowedGuilt x = Due.floor("WP0P0P0P0H8G6000G5000G3000G2000G1000G8100G7100");
        int[] then = {1, 2, 2, 3, 3, 2, 3};
        for (int grain = 0; grain < 7; grain++) {
            Due.is("grain(" + grain + ", 5)", x.grain(grain, 5), then[grain]);
        }
        Due.is("a tare of lift 4, by 3 more", Due.floor("WP0P0P0P0H8G1300").grain(0, 5), 2);
        Due.is("a tare of lift 4, by 2 more", Due.floor("WP0P0P0P0H8G2300").grain(0, 5), 1);
    }

    @Says(promise = 7, words = "behind the last PLACE it is GONE")
    static void lastPlaceAndBehindIt() {
        // Of lift 7 weight 1 flies 3 places.
        WinnowedGuilt x = Due.floor("WP0P0P0P0H7G1000G1001G1002G1003G7002G7003");
        int[] then = {3, 8, 8, 8, 3, 8};
        for (int grain = 0; grain < 6; grain++) {
            Due.is("grain(" + grain + ", 5)", x.grain(grain, 5), then[grain]);
        }
        Due.is("of one place", Due.floor("WP0H1G1000").grain(0, 5), 8);
    }

    @Says(promise = 7, words = "(a SEED never;")
    static void seedNeverFlies() {
        WinnowedGuilt x = Due.floor("WP1H9G1200");
        x.fan(0);
        Due.is("grain(0, 4)", x.grain(0, 4), 12);
        Due.is("grain(0, 5)", x.grain(0, 5), 0);
    }

    @Says(promise = 7, words = "what is a deed of a MILLER never from that one's PLACE")
    static void millersDeedsAtHisPlace() {
        WinnowedGuilt x = Due.floor("WP0P3P3H9G1011G1111G1311G1010G1001G1012G1000");
        // The miller's own stay; his deed elsewhere, others' deeds at his place, and a plain one's own fly.
        int[] then = {1, 1, 1, 8, 8, 8, 8};
        for (int grain = 0; grain < 7; grain++) {
            Due.is("grain(" + grain + ", 5)", x.grain(grain, 5), then[grain]);
        }
    }

    @Says(promise = 7, words = "HUSKS that do not, at the PLACE of a SIEVER, are EATEN")
    static void husksAtASievers() {
        WinnowedGuilt x = Due.floor("WP2P0P3H0G3100G2100G9000G9200G9300G9101G9120");
        // Of lift 2 a husk of 3 stays, one of 2 flies; other kinds are not eaten, nor husks at another's place.
        int[] then = {9, 2, 0, 0, 0, 1, 9};
        for (int grain = 0; grain < 7; grain++) {
            Due.is("grain(" + grain + ", 5)", x.grain(grain, 5), then[grain]);
        }
        Due.is("a siever's husk at another's place", Due.floor("WP0P2G9110").grain(0, 5), 0);
        Due.is("a boy's", Due.floor("WP1G9100").grain(0, 5), 0);
        Due.is("a miller's", Due.floor("WP3G9100").grain(0, 5), 0);
    }

    @Says(promise = 7, words = "its PLACE if it was TOSSED now (5; 8, 9)")
    static void goneAndEatenStayWhereTheyAre() {
        Due.is("eaten: grain(0, 5)", goneAndEaten().grain(0, 5), 9);
        Due.is("gone: grain(1, 5)", goneAndEaten().grain(1, 5), 8);
        Twins.leaves("grain(0, 5)", x -> x.grain(0, 5), 2);
    }

    @Says(promise = 7, words = "RIGHT is a GRAIN that lies at the PLACE of whose deed it is.")
    static void rightOrNot() {
        WinnowedGuilt x = Due.floor("WP0P0P0P0G1000G1033G1030G1003");
        int[] right = {1, 1, 0, 0};
        for (int grain = 0; grain < 4; grain++) {
            Due.is("grain(" + grain + ", 6)", x.grain(grain, 6), right[grain]);
        }
        Due.is("eaten: grain(0, 6)", goneAndEaten().grain(0, 6), 0);
        Due.is("gone: grain(1, 6)", goneAndEaten().grain(1, 6), 0);
    }
}
