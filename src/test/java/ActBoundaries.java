/** Boundary cases of promises 8 to 12: what is tossed, waited, picked, taken and undone. */
final class ActBoundaries {
    private ActBoundaries() {
    }

    // ---- promise 8

    @Says(promise = 8, words = "UNKNOWN: place.")
    static void placesThatAreNotThere() {
        Twins.leaves("toss(-1)", x -> x.toss(-1), Due.UNKNOWN);
        Twins.leaves("toss(4)", x -> x.toss(4), Due.UNKNOWN);
        Twins.leaves("toss(8)", x -> x.toss(8), Due.UNKNOWN);
        Twins.leaves("toss(9)", x -> x.toss(9), Due.UNKNOWN);
        Twins.leaves("toss(least)", x -> x.toss(Integer.MIN_VALUE), Due.UNKNOWN);
        Twins.leaves("toss(most)", x -> x.toss(Integer.MAX_VALUE), Due.UNKNOWN);
        Twins.leaves("of two, toss(2)", () -> Due.floor("WP0P0H9G1000"), x -> x.toss(2), Due.UNKNOWN);
        Twins.leaves("of nobody, toss(0)", () -> Due.floor("WH9"), x -> x.toss(0), Due.UNKNOWN);
    }

    @Says(promise = 8, words = "TOSSED: how many GRAINS flew.")
    static void noneAndAllFlew() {
        Due.is("nothing lies there", Due.floor("WP0P0H9G1001").toss(0), 0);
        Due.is("nothing flies", Due.floor("WP0H0G1000").toss(0), 0);
        Due.is("seven fly", Due.floor("WP0H9G1000G1000G1000G1100G1100G9000G9000").toss(0), 7);
        Due.is("what lands on a place flew", Due.floor("WP0P0H1G1000").toss(0), 1);
        Due.is("eaten ones did not fly", Due.floor("WP2G9100G9100G1100").toss(0), 1);
    }

    @Says(promise = 8, words = "TOSSED: at a PLACE all GRAINS that lie there, at once")
    static void allAtOnceAndOnlyThere() {
        // If the clock went on between two of them, the second would lie still; if grains flew on, none would be at 1.
        WinnowedGuilt x = Due.floor("WP0P0P0H3H0G3000G3000G3001G3002");
        Due.is("toss(0)", x.toss(0), 2);
        Due.is("person(1, 3)", x.person(1, 3), 7);
        Due.is("person(2, 3)", x.person(2, 3), 8);
        WinnowedGuilt on = Due.floor("WP0P0P0H3G3001G3000");
        Due.is("toss(1)", on.toss(1), 1);
        Due.is("grain(0, 3)", on.grain(0, 3), 2);
        Due.is("grain(1, 3)", on.grain(1, 3), 0);
    }

    @Says(promise = 8, words = "HUSKS that do not, at the PLACE of a SIEVER, are EATEN")
    static void tossedHusksAreEaten() {
        WinnowedGuilt x = Due.floor("WP2P2H0G3100G2100G9000G9101");
        // The husk of 2 flies two places on, behind the last one; that at the other siever's is not tossed.
        Due.is("toss(0)", x.toss(0), 1);
        Due.is("count(9)", x.count(9), 1);
        Due.is("count(8)", x.count(8), 2);
        Due.is("person(0, 3)", x.person(0, 3), 4);
        Due.is("grain(3, 3)", x.grain(3, 3), 1);
        Due.is("toss(0) again", x.toss(0), 0);
        Due.is("eaten ones stay eaten", x.grain(0, 3), 9);
    }

    @Says(promise = 8, words = "behind the last PLACE it is GONE")
    static void tossedGrainsAreGone() {
        WinnowedGuilt x = Due.floor("WP0P0H1G1001G1000");
        Due.is("toss(1)", x.toss(1), 1);
        Due.is("count(8)", x.count(8), 1);
        Due.is("toss(0)", x.toss(0), 1);
        Due.is("the last place itself", x.grain(1, 3), 1);
        Due.is("gone ones stay gone", x.grain(0, 3), 8);
    }

    @Says(promise = 8, words = "By both THE CLOCK is one more.")
    static void clockGoesOnByEveryToss() {
        WinnowedGuilt x = Due.floor("WP0P0H0H9G1000");
        Due.is("toss(1) of nothing", x.toss(1), 0);
        Due.is("count(4)", x.count(4), 1);
        Due.is("toss(0) in the next hour", x.toss(0), 1);
        Due.is("count(4)", x.count(4), 2);
        Due.is("count(5) wraps", x.count(5), 0);
        Due.is("count(11)", x.count(11), 2);
    }

    // ---- promise 9

    @Says(promise = 9, words = "WAITED: THE WIND then.")
    static void windBehindTheWait() {
        WinnowedGuilt x = Due.floor("WH1H2H3H4H5H9");
        int[] winds = {2, 3, 4, 5, 9, 1, 2};
        for (int i = 0; i < winds.length; i++) {
            Due.is("calm() no. " + (i + 1), x.calm(), winds[i]);
        }
        Due.is("one hour", Due.floor("WH7").calm(), 7);
    }

    @Says(promise = 9, words = "(0: there are none)")
    static void noHoursNoWind() {
        Due.is("a new object", new WinnowedGuilt().calm(), 0);
        Due.is("a floor without hours", Due.floor("WP0").calm(), 0);
    }

    @Says(promise = 9, words = "WAITED: nothing. By both THE CLOCK is one more.")
    static void onlyTheClockGoesOn() {
        Twins.leaves("calm(), undo()", x -> x.calm() * 100 + x.undo(), 6);
        WinnowedGuilt x = Due.floor("WP2H9G1100G9100");
        x.fan(0);
        x.calm();
        Due.is("count(4)", x.count(4), 1);
        Due.is("person(0, 3)", x.person(0, 3), 3);
        Due.is("count(6)", x.count(6), 0);
        Due.is("count(11)", x.count(11), 2);
    }

    @Says(promise = 9, words = "THE WIND is that of the HOUR which is left of THE CLOCK by how many HOURS there are")
    static void windWrapsToTheLastCall() {
        // 13 letters, wipe and floor: 15 calls; then 490 waits.
        WinnowedGuilt x = Due.floor("WH1H2H3H4H5H6", 489);
        Due.is("calm() no. 490", x.calm(), 5);
        Due.is("count(4)", x.count(4), 490);
    }

    // ---- promise 10

    @Says(promise = 10, words = "UNKNOWN; STATE: it is no TARE, or lies there already.")
    static void noSuchGrainToPick() {
        Twins.leaves("pick(-1)", x -> x.pick(-1), Due.UNKNOWN);
        Twins.leaves("pick(7)", x -> x.pick(7), Due.UNKNOWN);
        Twins.leaves("pick(least)", x -> x.pick(Integer.MIN_VALUE), Due.UNKNOWN);
        Twins.leaves("pick(most)", x -> x.pick(Integer.MAX_VALUE), Due.UNKNOWN);
        Twins.leaves("of one, pick(1)", () -> Due.floor("WP0P0G1310"), x -> x.pick(1), Due.UNKNOWN);
    }

    @Says(promise = 10, words = "STATE: it is no TARE")
    static void onlyTaresArePicked() {
        for (int kind = 0; kind < 3; kind++) {
            String text = "WP0P0G1" + kind + "10";
            Twins.leaves("pick(0) of " + text, () -> Due.floor(text), x -> x.pick(0), Due.STATE);
        }
        Due.is("of a tare", Due.floor("WP0P0G1310").pick(0), 0);
    }

    @Says(promise = 10, words = "or lies there already")
    static void tareThatIsRightIsNotPicked() {
        Twins.leaves("pick(0), told so", () -> Due.floor("WP0P0G1311"), x -> x.pick(0), Due.STATE);
        Twins.leaves("pick(2), picked", x -> x.pick(2), Due.STATE);
        WinnowedGuilt flown = Due.floor("WP0P0H2G1310");
        flown.toss(0);
        Due.is("pick(0), flown there", flown.pick(0), Due.STATE);
    }

    @Says(promise = 10, words = "PICKED: the PLACE where it lay (8, 9).")
    static void firstLastPlaceAndNextParish() {
        Due.is("from the first place to the last", Due.floor("WP0P0P0P0G9330").pick(0), 0);
        Due.is("from the last place to the first", Due.floor("WP0P0P0P0G9303").pick(0), 3);
        WinnowedGuilt gone = Due.floor("WP0H9G1300");
        gone.toss(0);
        Due.is("out of the next parish", gone.pick(0), 8);
        Due.is("count(8)", gone.count(8), 0);
        Due.is("once more", gone.pick(0), Due.STATE);
    }

    @Says(promise = 10, words = "PICKED: a TARE lies at the PLACE of whose deed it is.")
    static void pickTakesNoTime() {
        WinnowedGuilt x = Due.floor("WP0P0P0P0H3G9330G9320G1030");
        Due.is("pick(0)", x.pick(0), 0);
        Due.is("grain(0, 3)", x.grain(0, 3), 3);
        Due.is("grain(1, 3)", x.grain(1, 3), 0);
        Due.is("grain(2, 3)", x.grain(2, 3), 0);
        Due.is("count(4)", x.count(4), 0);
        Due.is("count(11)", x.count(11), 1);
    }

    // ---- promise 11

    @Says(promise = 11, words = "UNKNOWN; STATE: it holds it.")
    static void nobodyToTakeTheFan() {
        Twins.leaves("fan(-1)", x -> x.fan(-1), Due.UNKNOWN);
        Twins.leaves("fan(4)", x -> x.fan(4), Due.UNKNOWN);
        Twins.leaves("fan(-9)", x -> x.fan(-9), Due.UNKNOWN);
        Twins.leaves("fan(15)", x -> x.fan(15), Due.UNKNOWN);
        Twins.leaves("fan(least)", x -> x.fan(Integer.MIN_VALUE), Due.UNKNOWN);
        Twins.leaves("fan(most)", x -> x.fan(Integer.MAX_VALUE), Due.UNKNOWN);
        Twins.leaves("nobody holds it, fan(-9)", () -> Due.floor("WP0"), x -> x.fan(-9), Due.UNKNOWN);
        Twins.leaves("of one, fan(1)", () -> Due.floor("WP0"), x -> x.fan(1), Due.UNKNOWN);
    }

    @Says(promise = 11, words = "STATE: it holds it.")
    static void whoHoldsItDoesNotTakeIt() {
        Twins.leaves("fan(0)", x -> x.fan(0), Due.STATE);
        for (int person = 0; person < 4; person++) {
            WinnowedGuilt x = Due.floor("WP0P0P0P0");
            x.fan(person);
            Due.is("fan(" + person + ") again", x.fan(person), Due.STATE);
            Due.is("count(11)", x.count(11), 1);
        }
    }

    @Says(promise = 11, words = "FAN: who held it; NONE.")
    static void whoHeldItOrNobody() {
        WinnowedGuilt x = Due.floor("WP0P0P0P0");
        Due.is("fan(0), nobody held it", x.fan(0), Due.NONE);
        Due.is("fan(3), the first held it", x.fan(3), 0);
        Due.is("fan(0), the last held it", x.fan(0), 3);
        x.floor();
        Due.is("fan(3) on a new floor", x.fan(3), Due.NONE);
    }

    @Says(promise = 11, words = "FAN: a PERSON holds the FAN (another one does not any more).")
    static void fanTakesNoTimeAndOneHasIt() {
        WinnowedGuilt x = Due.floor("WP0P1P2P3H4");
        x.fan(1);
        x.fan(3);
        int[] lifts = {4, 5, 4, 6};
        for (int person = 0; person < 4; person++) {
            Due.is("person(" + person + ", 1)", x.person(person, 1), lifts[person]);
        }
        Due.is("count(6)", x.count(6), 3);
        Due.is("count(4)", x.count(4), 0);
        Due.is("count(11)", x.count(11), 2);
    }

    // ---- promise 12

    @Says(promise = 12, words = "STATE: there is none.")
    static void nothingToUndo() {
        Twins.leaves("undo() of a new object", WinnowedGuilt::new, WinnowedGuilt::undo, Due.STATE);
        Twins.leaves("undo() of a new floor", () -> Due.floor(Twins.ALL), WinnowedGuilt::undo, Due.STATE);
        Twins.leaves("undo() beyond all", () -> {
            WinnowedGuilt x = Twins.busy();
            for (int left = 5; left >= 0; left--) {
                Due.is("undo()", x.undo(), left);
            }
            return x;
        }, WinnowedGuilt::undo, Due.STATE);
        Twins.leaves("undo() of what is gone on from", () -> {
            WinnowedGuilt x = Twins.busy();
            x.again(0);
            return x;
        }, WinnowedGuilt::undo, Due.STATE);
    }

    @Says(promise = 12, words = "The last ACT is undone: how many are left.")
    static void eachActIsUndone() {
        Twins.leaves("toss(0), undo()", x -> x.toss(0) * 100 + x.undo(), 206);
        Twins.leaves("toss(2), undo()", x -> x.toss(2) * 100 + x.undo(), 6);
        Twins.leaves("fan(3), undo()", x -> x.fan(3) * 100 + x.undo(), 6);
        Twins.leaves("the first fan(3), undo()", () -> Due.floor(Twins.ALL), x -> x.fan(3) * 100 + x.undo(), -900);
        Twins.leaves("pick(2), undo()", () -> Due.floor(Twins.ALL), x -> x.pick(2) * 100 + x.undo(), 100);
        Twins.leaves("pick(0) of a gone one, undo()", () -> {
            WinnowedGuilt x = Due.floor("WP0H9G1300");
            x.toss(0);
            return x;
        }, x -> x.pick(0) * 100 + x.undo(), 801);
    }

    @Says(promise = 12, words = "ACTS (TOSSED, WAITED, PICKED, FAN) are a row (14 at most;")
    static void fourteenActsAreUndone() {
        WinnowedGuilt x = Due.floor("WP0", 14);
        for (int left = 13; left >= 0; left--) {
            Due.is("undo()", x.undo(), left);
            Due.is("count(4)", x.count(4), left);
        }
        Due.is("undo() beyond", x.undo(), Due.STATE);
    }

    @Says(promise = 12, words = "of more the first one is forgotten")
    static void fifteenthActForgetsTheFirst() {
        WinnowedGuilt x = Due.floor("WP0", 15);
        Due.is("count(11)", x.count(11), 14);
        for (int left = 13; left >= 0; left--) {
            Due.is("undo()", x.undo(), left);
            Due.is("count(4)", x.count(4), left + 1);
        }
        Due.is("undo() beyond", x.undo(), Due.STATE);
        Due.is("count(4)", x.count(4), 1);
    }

    @Says(promise = 12, words = "of more the first one is forgotten")
    static void manyActsAreForgotten() {
        WinnowedGuilt x = Due.floor("WP0P0", 40);
        x.fan(0);
        Due.is("count(11)", x.count(11), 14);
        Due.is("undo()", x.undo(), 13);
        Due.is("undo()", x.undo(), 12);
        for (int i = 0; i < 4; i++) {
            x.fan(1 - i % 2);
        }
        Due.is("count(11)", x.count(11), 14);
        for (int left = 13; left >= 0; left--) {
            Due.is("undo()", x.undo(), left);
        }
        // Of 39 waits and four fans the last 14 are those four and ten waits.
        Due.is("count(4)", x.count(4), 29);
        Due.is("count(6)", x.count(6), Due.NONE);
    }

    @Says(promise = 12, words = "What is refused changes nothing.")
    static void refusedCallsAreNoActs() {
        WinnowedGuilt x = Due.floor("WP0P0G1000");
        x.calm();
        x.fan(1);
        x.toss(2);
        x.pick(0);
        x.fan(1);
        x.again(0);
        Due.is("count(11)", x.count(11), 2);
        Due.is("undo()", x.undo(), 1);
        Due.is("count(6)", x.count(6), Due.NONE);
        Due.is("count(4)", x.count(4), 1);
    }

    @Says(promise = 12, words = "ACTS (TOSSED, WAITED, PICKED, FAN) are a row")
    static void nothingElseIsAnAct() {
        WinnowedGuilt x = Due.floor("WP0P0H3G3010");
        x.write('P');
        x.fault();
        x.see(0, 0, 0);
        x.unsee();
        x.seed(4);
        x.years(3);
        x.keep(0);
        x.best(2, true);
        x.judge(2, 21);
        x.gust(0, 3, 5, true);
        x.wipe();
        Due.is("count(11)", x.count(11), 0);
        Due.is("undo()", x.undo(), Due.STATE);
    }
}
