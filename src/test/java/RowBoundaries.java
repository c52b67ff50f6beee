/** Boundary cases of promises 13 to 18: rows of turns, when a grain flies, votes, told doings. */
final class RowBoundaries {
    /** Wind 3: the grain at place 0 is a deed of person 1, and flies there. */
    private static final String PAIR = "WP0P0H3G3010";
    /** At wind 9 each of these flies one place on. */
    private static final String THREE_RIGHT = "G9000G9011G9022";
    /**
     * Holder 0 or 2: the two of 3 fly one place on, to 2 (where the wind is gone), that of 5 stays with 1.
     * Holder 1: the two fly two places on, that of 5 one. So 1 has a guilt of 5, 0, 5, and 2 has one of 6, 5, 6.
     */
    private static final String FOR_ONE = "WP0P0P0H4H4H0G3011G3011G5011";

    private RowBoundaries() {
    }

    private static void best(String text, int n, int many, int row) {
        WinnowedGuilt x = Due.floor(text);
        Due.is("of " + text + " best(" + n + ", false)", x.best(n, false), many);
        Due.is("of " + text + " best(" + n + ", true)", x.best(n, true), row);
    }

    private static void votes(String name, WinnowedGuilt x, int chosen, int... votes) {
        for (int person = 0; person < votes.length; person++) {
            Due.is(name + ": votes(" + person + ")", x.votes(person), votes[person]);
        }
        Due.is(name + ": chosen()", x.chosen(), chosen);
    }

    private static void judge(String text, int n, int row, int want) {
        Due.is("of " + text + " judge(" + n + ", " + row + ")", Due.floor(text).judge(n, row), want);
    }

    // ---- promise 13

    @Says(promise = 13, words = "OUTSIDE: n.")
    static void noRowsOfNoneOrFive() {
        for (int n : new int[] {0, 5, -1, Integer.MIN_VALUE, Integer.MAX_VALUE}) {
            Twins.leaves("best(" + n + ", false)", x -> x.best(n, false), Due.OUTSIDE);
            Twins.leaves("best(" + n + ", true)", x -> x.best(n, true), Due.OUTSIDE);
        }
    }

    @Says(promise = 13, words = "BEST for n (1 to 4)")
    static void rowsOfOneToFour() {
        // In the last of four hours alone the grain flies to its own: the tosses ahead of it let the clock go on.
        best("WP0P0H0H0H0H3G3010", 1, 0, 10);
        best("WP0P0H0H0H0H3G3010", 2, 0, 100);
        best("WP0P0H0H0H0H3G3010", 3, 0, 1000);
        best("WP0P0H0H0H0H3G3010", 4, 1, 10000);
        best("WP0P0H0H0H0H0H3G3010", 4, 0, 10000);
    }

    @Says(promise = 13, words = "A TURN: 0 to 3 TOSSED at that PLACE, if there is such a one; 4 WAITED.")
    static void turnsThatThereAre() {
        for (int n = 1, row = 14; n <= 4; n++, row = 10 * row + 4) {
            best("WH9", n, 0, row);
        }
        // A toss at 0, 1 or 2 takes one from where it is right; one at place 3, where nothing lies, is the least number.
        best("WP0P0P0P0H9" + THREE_RIGHT, 1, 3, 13);
        best("WP0P0P0P0H9" + THREE_RIGHT, 4, 3, 13333);
        best("WP0P0P0H9" + THREE_RIGHT, 1, 3, 14);
        best("WP0P0P0H9" + THREE_RIGHT, 4, 3, 14444);
        best("WP0P0P0P0H9" + THREE_RIGHT + "G9033", 1, 4, 14);
        best("WP0P0P0P0H9" + THREE_RIGHT + "G9033", 4, 4, 14444);
        best("WP0P0H9G9000", 1, 1, 11);
        best("WP0P0P0H9G9000G9011", 1, 2, 12);
    }

    @Says(promise = 13, words = "the first such row (as figures behind a 1, the least as a number)")
    static void leastOfLikeRows() {
        best("WP0P0P0P0", 1, 0, 10);
        best("WP0P0P0P0", 4, 0, 10000);
        // A toss at 0 in an hour of wind 9 would take what is right: there it is waited, else the least number tossed.
        best("WP0H0H9H0G9000", 3, 1, 1040);
        best("WP0H9H0H9G9000", 3, 1, 1404);
        best("WP0P0H9H3G3010", 2, 1, 110);
    }

    @Says(promise = 13, words = "the row of n TURNS behind which most GRAINS are RIGHT: how many")
    static void noneAndAllAreRight() {
        best("WP0", 1, 0, 10);
        best("WP0G1000G1000G1000G1000G1000G1000G1000", 1, 7, 10);
        best("WP0P0H3G3010G3010G3010G3010G3010G3010G3010", 1, 7, 10);
        best("WP0P0H9G3201", 4, 0, 10000);
    }

    @Says(promise = 13, words = "In what follows nothing is changed.")
    static void bestChangesNothing() {
        Twins.leaves("best(4, false)", () -> Due.floor(PAIR), x -> x.best(4, false), 1);
        Twins.leaves("best(4, true)", () -> Due.floor(PAIR), x -> x.best(4, true), 10000);
        Twins.leaves("best(1, false)", x -> x.best(1, false), 3);
    }

    // ---- promise 14

    @Says(promise = 14, words = "FEWEST; NONE. UNKNOWN.")
    static void fewestOfNobody() {
        for (int person : new int[] {-1, 4, Integer.MIN_VALUE, Integer.MAX_VALUE}) {
            Twins.leaves("fewest(" + person + ")", x -> x.fewest(person), Due.UNKNOWN);
        }
        Due.is("of two, fewest(2)", Due.floor(PAIR).fewest(2), Due.UNKNOWN);
    }

    @Says(promise = 14, words = "the least number of TURNS (0 to 4) by which it is CLEAN; NONE.")
    static void noneToFourTurns() {
        Due.is("nothing lies there", Due.floor("WP0").fewest(0), 0);
        Due.is("its own alone", Due.floor("WP0H9G1000").fewest(0), 0);
        Due.is("flies now", Due.floor("WP0P0H3G3010").fewest(0), 1);
        Due.is("flies in the next hour", Due.floor("WP0P0H0H3G3010").fewest(0), 2);
        Due.is("in the third", Due.floor("WP0P0H0H0H3G3010").fewest(0), 3);
        Due.is("in the fourth", Due.floor("WP0P0H0H0H0H3G3010").fewest(0), 4);
        Due.is("in the fifth", Due.floor("WP0P0H0H0H0H0H3G3010").fewest(0), Due.NONE);
        Due.is("never", Due.floor("WP0P0H9G1210").fewest(0), Due.NONE);
    }

    @Says(promise = 14, words = "FEWEST for a PERSON: the least number of TURNS")
    static void pickedAndFanAreNoTurns() {
        Due.is("a tare that could be picked", Due.floor("WP0P0H0G9310").fewest(0), Due.NONE);
        Due.is("one that the fan could lift", Due.floor("WP0P0H1G3010").fewest(0), Due.NONE);
        Due.is("a husk that is eaten", Due.floor("WP2P0H0G9110").fewest(0), 1);
        Due.is("the last person", Due.floor("WP0P0P0P0H9G9003").fewest(3), 1);
    }

    @Says(promise = 14, words = "In what follows nothing is changed.")
    static void fewestChangesNothing() {
        Twins.leaves("fewest(0)", () -> Due.floor(PAIR), x -> x.fewest(0), 1);
        Twins.leaves("fewest(0), busy", x -> x.fewest(0), 1);
    }

    // ---- promise 15

    @Says(promise = 15, words = "WHEN; NONE. UNKNOWN.")
    static void whenOfNoGrain() {
        for (int grain : new int[] {-1, 7, Integer.MIN_VALUE, Integer.MAX_VALUE}) {
            Twins.leaves("when(" + grain + ")", x -> x.when(grain), Due.UNKNOWN);
        }
        Due.is("of one, when(1)", Due.floor(PAIR).when(1), Due.UNKNOWN);
    }

    @Says(promise = 15, words = "in how many HOURS (0 to 20) it would FLY, if it was WAITED till then")
    static void nowAndInTheLastHour() {
        String late = "WP0H0H0H0H0H0H9G9000";
        Due.is("now", Due.floor("WP0H9G9000").when(0), 0);
        Due.is("in the last of six hours", Due.floor(late).when(0), 5);
        Due.is("an hour on", Due.floor(late, 1).when(0), 4);
        Due.is("in that hour", Due.floor(late, 5).when(0), 0);
        Due.is("behind it", Due.floor(late, 6).when(0), 5);
        Due.is("too heavy by 1", Due.floor("WP0H0H8G9000").when(0), Due.NONE);
        Due.is("a boy", Due.floor("WP1H0H8G9000").when(0), 1);
    }

    @Says(promise = 15, words = "(0: there are none)")
    static void whenWithoutHours() {
        WinnowedGuilt x = Due.floor("WP1G1000G2000G3000G4000G3100G4100");
        int[] alone = {0, Due.NONE, Due.NONE, Due.NONE, 0, Due.NONE};
        int[] withFan = {0, 0, 0, Due.NONE, 0, 0};
        for (int grain = 0; grain < 6; grain++) {
            Due.is("when(" + grain + ")", x.when(grain), alone[grain]);
        }
        x.fan(0);
        for (int grain = 0; grain < 6; grain++) {
            Due.is("with the fan when(" + grain + ")", x.when(grain), withFan[grain]);
        }
    }

    @Says(promise = 15, words = "NONE (also if it is GONE, EATEN)")
    static void whenOfGoneAndEaten() {
        WinnowedGuilt x = Due.floor("WP2P0H0H9G9100G1011");
        Due.is("ahead: when(0)", x.when(0), 1);
        Due.is("ahead: when(1)", x.when(1), 1);
        x.toss(0);
        x.toss(1);
        Due.is("eaten: when(0)", x.when(0), Due.NONE);
        Due.is("gone: when(1)", x.when(1), Due.NONE);
    }

    @Says(promise = 15, words = "(a SEED never; what is a deed of a MILLER never from that one's PLACE)")
    static void whenOfWhatNeverFlies() {
        Due.is("a seed", Due.floor("WP0H9G1200").when(0), Due.NONE);
        Due.is("a miller's own", Due.floor("WP3H9G1000").when(0), Due.NONE);
        Due.is("a miller's elsewhere", Due.floor("WP0P3H9G1010").when(0), 0);
    }

    @Says(promise = 15, words = "In what follows nothing is changed.")
    static void whenChangesNothing() {
        Twins.leaves("when(0)", x -> x.when(0), 0);
        Twins.leaves("when(5), eaten", x -> x.when(5), Due.NONE);
        Twins.leaves("when(0) in the last hour", () -> Due.floor("WP0H0H0H0H0H0H9G9000"), x -> x.when(0), 5);
    }

    // ---- promise 16

    @Says(promise = 16, words = "VOTES for a PERSON. UNKNOWN.")
    static void votesForNobody() {
        for (int person : new int[] {-1, 4, -9, Integer.MIN_VALUE, Integer.MAX_VALUE}) {
            Twins.leaves("votes(" + person + ")", x -> x.votes(person), Due.UNKNOWN);
        }
        Due.is("of two, votes(2)", Due.floor(PAIR).votes(2), Due.UNKNOWN);
    }

    @Says(promise = 16, words = "each PERSON is for the holder of the FAN by whom its GUILT is least")
    static void votesOfEach() {
        // The last one's own flies by the fan alone; the rest has nothing, and is for the least number.
        votes("the last one", Due.floor("WP0P0P0P0H1G3033"), 0, 3, 0, 0, 1);
        votes("two of three", Due.floor(FOR_ONE), 1, 1, 2, 0);
        votes("one alone", Due.floor("WP0H1G3000"), 0, 1);
    }

    @Says(promise = 16, words = "(of like ones the least number): how many are for a PERSON")
    static void likeHoldersGiveTheLeastNumber() {
        votes("nothing at all", Due.floor("WP0P0P0P0"), 0, 4, 0, 0, 0);
        votes("all flies anyway", Due.floor("WP0P0H9G1000G1001"), 0, 2, 0);
        votes("husks are no guilt", Due.floor("WP0P0G3111"), 0, 2, 0);
    }

    @Says(promise = 16, words = "if all PLACES were TOSSED once, one behind the other by number, from now on")
    static void hoursGoOnWhileTheyToss() {
        // An hour on there is no wind when place 1 is tossed: nothing of 3 and 5 flies, by the fan neither.
        votes("an hour on", Due.floor(FOR_ONE, 1), 0, 3, 0, 0);
        votes("a day on", Due.floor(FOR_ONE, 3), 1, 1, 2, 0);
        // It flies on from 0 to 1, and from there only by the fan of 1.
        votes("flies on", Due.floor("WP0P0H3H1G3000"), 0, 1, 1);
        // Gone by both, at once or by 1's fan; were place 1 tossed first, each would be for itself.
        votes("by number", Due.floor("WP0P0H3H0G2000"), 0, 2, 0);
    }

    @Says(promise = 16, words = "the holder of the FAN")
    static void whoHoldsItNowIsNotAsked() {
        WinnowedGuilt x = Due.floor(FOR_ONE);
        x.fan(2);
        votes("2 holds it", x, 1, 1, 2, 0);
        x.fan(1);
        votes("1 holds it", x, 1, 1, 2, 0);
    }

    @Says(promise = 16, words = "In what follows nothing is changed.")
    static void votesChangeNothing() {
        Twins.leaves("votes(1)", () -> Due.floor(FOR_ONE), x -> x.votes(1), 2);
        // Grain 0 is gone by holder 0; what else is guilt (a seed, a miller's own) never flies.
        Twins.leaves("votes(0), busy", x -> x.votes(0), 4);
    }

    // ---- promise 17

    @Says(promise = 17, words = "Who has most VOTES; NONE.")
    static void nobodyIsChosen() {
        Twins.leaves("chosen() of a new object", WinnowedGuilt::new, WinnowedGuilt::chosen, Due.NONE);
        Twins.leaves("chosen() of hours alone", () -> Due.floor("WH9"), WinnowedGuilt::chosen, Due.NONE);
        Due.is("one alone", Due.floor("WP3").chosen(), 0);
    }

    @Says(promise = 17, words = "who has most (of like ones the least number; NONE: nobody is there)")
    static void likeVotesChooseTheLeastNumber() {
        votes("one each", Due.floor("WP0P0H1G3011"), 0, 1, 1);
        // 0 is for the least number, 1 and 2 each for itself.
        votes("one each of three", Due.floor("WP0P0P0H1G3011G3022"), 0, 1, 1, 1);
        votes("more for the second", Due.floor(FOR_ONE), 1, 1, 2, 0);
    }

    @Says(promise = 17, words = "In what follows nothing is changed.")
    static void chosenChangesNothing() {
        Twins.leaves("chosen()", () -> Due.floor(FOR_ONE), WinnowedGuilt::chosen, 1);
    }

    // ---- promise 18

    @Says(promise = 18, words = "OUTSIDE: n, row (0 or more, 2 n figures at most).")
    static void noneOrFiveDoings() {
        for (int n : new int[] {0, 5, -1, Integer.MIN_VALUE, Integer.MAX_VALUE}) {
            Twins.leaves("judge(" + n + ", 0)", x -> x.judge(n, 0), Due.OUTSIDE);
            Twins.leaves("judge(" + n + ", -1)", x -> x.judge(n, -1), Due.OUTSIDE);
        }
    }

    @Says(promise = 18, words = "row (0 or more")
    static void rowBelowNought() {
        for (int n = 1; n <= 4; n++) {
            int doings = n;
            Twins.leaves("judge(" + n + ", -1)", x -> x.judge(doings, -1), Due.OUTSIDE);
            Due.is("judge(" + n + ", least)", Due.floor("WP0").judge(n, Integer.MIN_VALUE), Due.OUTSIDE);
            Due.is("judge(" + n + ", 0)", Due.floor("WP0").judge(n, 0), Due.NONE);
        }
    }

    @Says(promise = 18, words = "2 n figures at most")
    static void asManyFiguresAsThereAre() {
        int span = 1;
        for (int n = 1; n <= 4; n++) {
            span *= 100;
            int doings = n;
            int over = span;
            Due.is("judge(" + n + ", " + (span - 1) + ")", Due.floor("WP0").judge(n, span - 1), 0);
            Twins.leaves("judge(" + n + ", " + span + ")", x -> x.judge(doings, over), Due.OUTSIDE);
            Due.is("judge(" + n + ", most)", Due.floor("WP0").judge(n, Integer.MAX_VALUE), Due.OUTSIDE);
        }
        Due.is("judge(1, 4)", Due.floor("WP0").judge(1, 4), Due.NONE);
        Due.is("judge(4, 20040430)", Due.floor("WP0").judge(4, 20040430), Due.NONE);
    }

    @Says(promise = 18, words = "told as two figures each")
    static void figuresThatAreNoughtAhead() {
        // Of one person: 00 00 00 01 has no place 1, 00 01 00 00 neither.
        judge("WP0", 4, 1, 3);
        judge("WP0", 3, 1, 2);
        judge("WP0", 4, 10000, 1);
        judge("WP0", 4, 4, Due.NONE);
        judge("W", 4, 4, 0);
    }

    @Says(promise = 18, words = "the place of the first that can not be (or is not so); NONE: none.")
    static void firstToLastPlace() {
        judge("WP0", 4, 1000000, 0);
        judge("WP0", 4, 4010000, 1);
        judge("WP0", 4, 4040100, 2);
        judge("WP0", 4, 4040401, 3);
        judge("WP0", 4, 4040404, Due.NONE);
        judge("WP0", 4, 4010101, 1);
    }

    @Says(promise = 18, words = "(0 and a TURN: that;")
    static void turnsThatCanNotBe() {
        for (int turn = 0; turn <= 9; turn++) {
            judge("WP0P0P0P0", 1, turn, turn <= 4 ? Due.NONE : 0);
            judge("WP0P0P0", 1, turn, turn <= 2 || turn == 4 ? Due.NONE : 0);
            judge("W", 1, turn, turn == 4 ? Due.NONE : 0);
        }
    }

    @Says(promise = 18, words = "1 and a GRAIN: PICKED;")
    static void picksThatCanNotBe() {
        // Tares not with their own at 0 and 6, one that is right at 1; 2 to 5 are none.
        String text = "WP0P0G9310G9300G9010G9110G9210G9001G9301";
        for (int grain = 0; grain <= 9; grain++) {
            judge(text, 1, 10 + grain, grain == 0 || grain == 6 ? Due.NONE : 0);
        }
        judge(text, 2, 1010, 1);
        judge(text, 2, 1016, Due.NONE);
        // Gone by a toss at wind 9, and picked then; or flown where it belongs.
        judge("WP0H9G1300", 2, 10, Due.NONE);
        judge("WP0P0H2G1310", 2, 10, 1);
    }

    @Says(promise = 18, words = "2 and a PERSON: FAN;")
    static void fansThatCanNotBe() {
        for (int person = 0; person <= 9; person++) {
            judge("WP0P0", 1, 20 + person, person <= 1 ? Due.NONE : 0);
        }
        judge("WP0P0", 2, 2121, 1);
        judge("WP0P0", 3, 212021, Due.NONE);
        WinnowedGuilt x = Due.floor("WP0P0");
        x.fan(0);
        Due.is("held already: judge(1, 20)", x.judge(1, 20), 0);
        Due.is("not by another: judge(1, 21)", x.judge(1, 21), Due.NONE);
    }

    @Says(promise = 18, words = "3 and a PERSON: to be CLEAN then")
    static void notCleanThen() {
        for (int person = 0; person <= 9; person++) {
            judge("WP0P0G9011", 1, 30 + person, person <= 1 ? Due.NONE : 0);
            judge("WP0P0G9010", 1, 30 + person, person == 1 ? Due.NONE : 0);
        }
        judge(PAIR, 2, 30, Due.NONE);
        judge(PAIR, 2, 3000, 0);
        judge(PAIR, 3, 31, Due.NONE);
        // Wind only in the third hour, the fan when that is not enough.
        judge("WP0P0H0H0H3G3010", 4, 4040030, Due.NONE);
        judge("WP0P0H0H0H3G3010", 3, 40030, 2);
        judge("WP0P0H1G3010", 3, 200030, Due.NONE);
        judge("WP0P0H1G3010", 3, 210030, 2);
        judge("WP0P0G9310", 2, 1030, Due.NONE);
    }

    @Says(promise = 18, words = "JUDGED: n doings (1 to 4), told as two figures each (0 and a TURN: that; 1 and a GRAIN: PICKED; 2 and a PERSON: FAN; 3 and a PERSON")
    static void otherFiguresAreNoDoings() {
        for (int first = 4; first <= 9; first++) {
            judge("WP0P0G9310", 1, first * 10, 0);
            judge("WP0P0G9310", 4, 4040400 + first * 10, 3);
        }
    }

    @Says(promise = 18, words = "In what follows nothing is changed.")
    static void judgeChangesNothing() {
        Twins.leaves("toss, fan, wait, clean", x -> x.judge(4, 210431), Due.NONE);
        Twins.leaves("toss, toss, fan, then what can not be", x -> x.judge(4, 2035), 2);
        Twins.leaves("pick", () -> Due.floor(Twins.ALL), x -> x.judge(2, 1204), Due.NONE);
    }
}
