/** Boundary cases of promises 27 to 29: what is kept, gone on from, counted. */
final class SlotBoundaries {
    private SlotBoundaries() {
    }

    private static void count(String name, WinnowedGuilt x, int what, int want) {
        Due.is(name + ": count(" + what + ")", x.count(what), want);
    }

    // ---- promise 27

    @Says(promise = 27, words = "They are kept: THE CLOCK. UNKNOWN.")
    static void slotsThatAreNotThereToKeep() {
        for (int slot : new int[] {-1, 2, Integer.MIN_VALUE, Integer.MAX_VALUE}) {
            Twins.leaves("keep(" + slot + ")", x -> x.keep(slot), Due.UNKNOWN);
        }
    }

    @Says(promise = 27, words = "SLOTS 0 to 1 keep where GRAINS lie, who holds the FAN, THE CLOCK")
    static void firstAndLastSlotKeepEachItsOwn() {
        WinnowedGuilt x = Due.floor("WP0P0H3G3010");
        Due.is("keep(0) of a new floor", x.keep(0), 0);
        x.toss(0);
        x.fan(1);
        Due.is("keep(1)", x.keep(1), 1);
        x.toss(1);
        x.fan(0);
        Due.is("count(8)", x.count(8), 1);
        Due.is("again(0)", x.again(0), 0);
        Due.is("grain(0, 3)", x.grain(0, 3), 0);
        Due.is("count(6)", x.count(6), Due.NONE);
        Due.is("count(4)", x.count(4), 0);
        Due.is("again(1)", x.again(1), 1);
        Due.is("grain(0, 3)", x.grain(0, 3), 1);
        Due.is("count(6)", x.count(6), 1);
        Due.is("count(4)", x.count(4), 1);
    }

    @Says(promise = 27, words = "They are kept: THE CLOCK.")
    static void keptOfANewObjectAndOverAnOldOne() {
        WinnowedGuilt x = new WinnowedGuilt();
        Due.is("keep(1) of nothing", x.keep(1), 0);
        x.calm();
        x.calm();
        Due.is("keep(1) over it", x.keep(1), 2);
        x.calm();
        Due.is("again(1)", x.again(1), 2);
        Due.is("the other is not kept", x.again(0), Due.STATE);
    }

    @Says(promise = 27, words = "They are kept")
    static void keepIsNoAct() {
        WinnowedGuilt x = Due.floor("WP0", 14);
        Due.is("keep(0)", x.keep(0), 14);
        Due.is("count(11)", x.count(11), 14);
        Due.is("undo()", x.undo(), 13);
        Due.is("count(4)", x.count(4), 13);
        Due.is("what is kept is not undone", x.again(0), 14);
    }

    // ---- promise 28

    @Says(promise = 28, words = "They are as they were kept: THE CLOCK. UNKNOWN; STATE: none were kept.")
    static void slotsThatAreNotThereToGoOnFrom() {
        for (int slot : new int[] {-1, 2, Integer.MIN_VALUE, Integer.MAX_VALUE}) {
            Twins.leaves("again(" + slot + ")", x -> x.again(slot), Due.UNKNOWN);
            Due.is("of a new object, again(" + slot + ")", new WinnowedGuilt().again(slot), Due.UNKNOWN);
        }
    }

    @Says(promise = 28, words = "STATE: none were kept.")
    static void nothingWasKept() {
        Twins.leaves("again(0) of a new object", WinnowedGuilt::new, x -> x.again(0), Due.STATE);
        Twins.leaves("again(1), only 0 is kept", () -> {
            WinnowedGuilt x = Due.floor(Twins.ALL, 3);
            x.keep(0);
            x.toss(0);
            return x;
        }, x -> x.again(1), Due.STATE);
        Twins.leaves("again(0), only 1 is kept", () -> {
            WinnowedGuilt x = Due.floor(Twins.ALL, 3);
            x.keep(1);
            x.toss(0);
            return x;
        }, x -> x.again(0), Due.STATE);
        Twins.leaves("again(0) behind a new floor", () -> {
            WinnowedGuilt x = Twins.busy();
            Due.write(x, "WP0P0H2");
            x.floor();
            x.toss(1);
            return x;
        }, x -> x.again(0), Due.STATE);
    }

    @Says(promise = 28, words = "THE ROW of ACTS is empty when one goes on")
    static void noActsWhenOneGoesOn() {
        WinnowedGuilt x = Due.floor("WP0", 5);
        x.keep(0);
        x.calm();
        Due.is("again(0)", x.again(0), 5);
        Due.is("count(11)", x.count(11), 0);
        Due.is("undo()", x.undo(), Due.STATE);
        Due.is("count(4)", x.count(4), 5);
        x.calm();
        Due.is("undo() of what came then", x.undo(), 0);
        Due.is("count(4)", x.count(4), 5);
    }

    @Says(promise = 28, words = "They are as they were kept: THE CLOCK.")
    static void goneOnFromOnceMore() {
        WinnowedGuilt x = Twins.busy();
        for (int time = 1; time <= 3; time++) {
            Due.is("again(0) no. " + time, x.again(0), 1);
            x.toss(time);
            Due.is("again(1) no. " + time, x.again(1), 2);
            x.toss(time);
        }
    }

    @Says(promise = 28, words = "SLOTS 0 to 1 keep where GRAINS lie, who holds the FAN, THE CLOCK")
    static void nothingElseIsKept() {
        WinnowedGuilt x = Twins.busy();
        x.see(2, 0, 0);
        x.seed(5);
        x.write('1');
        Due.is("again(0)", x.again(0), 1);
        Due.is("seen ones stay", x.count(12), 3);
        Due.is("the text stays", x.count(0), 52);
        Due.is("the seed stays", x.seed(0), 5);
        Due.is("what was eaten is not", x.grain(5, 3), 2);
        Due.is("what was gone is not", x.grain(6, 3), 3);
        Due.is("what was picked is not", x.grain(2, 3), 1);
        Due.is("the other slot stays", x.again(1), 2);
        Due.is("there it is eaten", x.grain(5, 3), 9);
    }

    // ---- promise 29

    @Says(promise = 29, words = "12 SEEN. OUTSIDE.")
    static void nothingElseIsCounted() {
        for (int what : new int[] {-1, 13, Integer.MIN_VALUE, Integer.MAX_VALUE}) {
            Twins.leaves("count(" + what + ")", x -> x.count(what), Due.OUTSIDE);
        }
        Due.is("count(12)", Twins.busy().count(12), 2);
        Due.is("count(0)", Twins.busy().count(0), 51);
    }

    @Says(promise = 29, words = "0 letters of THE TEXT, 1 PEOPLE, 2 HOURS, 3 GRAINS")
    static void noneAndMostAreCounted() {
        WinnowedGuilt x = Due.floor("W");
        count("least", x, 0, 1);
        count("least", x, 1, 0);
        count("least", x, 2, 0);
        count("least", x, 3, 0);
        Due.write(x, "WP0P0P0P0H0H0H0H0H0H0G1000G1000G1000G1000G1000G1000G1000");
        count("most letters, no floor yet", x, 0, 56);
        count("no floor yet", x, 1, 0);
        x.floor();
        count("most", x, 1, 4);
        count("most", x, 2, 6);
        count("most", x, 3, 7);
        x.wipe();
        count("no letters", x, 0, 0);
        count("no letters", x, 3, 7);
    }

    @Says(promise = 29, words = "4 THE CLOCK, 5 THE WIND")
    static void clockGoesOnAndWindWraps() {
        WinnowedGuilt x = Due.floor("WH1H2H3H4H5H9");
        int[] winds = {1, 2, 3, 4, 5, 9};
        for (int clock = 0; clock < 30; clock++) {
            count("hour " + clock, x, 4, clock);
            count("hour " + clock, x, 5, winds[clock % 6]);
            x.calm();
        }
        count("no hours", Due.floor("WP0", 4), 5, 0);
    }

    @Says(promise = 29, words = "6 who holds the FAN (NONE)")
    static void nobodyFirstAndLastHolds() {
        WinnowedGuilt x = Due.floor("WP0P0P0P0");
        count("nobody", x, 6, Due.NONE);
        x.fan(0);
        count("the first", x, 6, 0);
        x.fan(3);
        count("the last", x, 6, 3);
    }

    @Says(promise = 29, words = "7 GRAINS that are RIGHT (bits), 8 that are GONE (bits), 9 that are EATEN (bits)")
    static void noBitsAndAllBits() {
        WinnowedGuilt right = Due.floor("WP0H9G1000G1000G1000G1000G1000G1000G1000");
        count("all right", right, 7, 127);
        count("none gone", right, 8, 0);
        right.toss(0);
        count("none right", right, 7, 0);
        count("all gone", right, 8, 127);
        count("none eaten", right, 9, 0);
        WinnowedGuilt eaten = Due.floor("WP2G9100G9100G9100G9100G9100G9100G9100");
        eaten.toss(0);
        count("all eaten", eaten, 9, 127);
        count("none gone", eaten, 8, 0);
        count("none right", eaten, 7, 0);
        // Right, not right, gone, eaten.
        WinnowedGuilt each = Due.floor("WP2P0H4G9000G9010G1000G9100");
        each.toss(0);
        count("one each", each, 7, 1);
        count("one each", each, 8, 4);
        count("one each", each, 9, 8);
    }

    @Says(promise = 29, words = "10 who is CLEAN (bits)")
    static void nobodyAndAllAreClean() {
        count("all", Due.floor("WP0P0P0P0"), 10, 15);
        count("nobody", Due.floor("WP0P0P0P0G9010G9001G9002G9003"), 10, 0);
        count("the first and the last", Due.floor("WP0P0P0P0G9001G9102G9000G9033"), 10, 9);
        count("nobody is there", Due.floor("WH9"), 10, 0);
    }

    @Says(promise = 29, words = "11 ACTS in the row, 12 SEEN")
    static void noneAndMostActsAndSeen() {
        WinnowedGuilt x = Due.floor("WP0");
        for (int acts = 0; acts <= 16; acts++) {
            count("after " + acts, x, 11, Math.min(14, acts));
            x.calm();
        }
        for (int seen = 0; seen <= 7; seen++) {
            count("after " + seen, x, 12, Math.min(6, seen));
            x.see(0, 0, 0);
        }
    }

    @Says(promise = 29, words = "4 THE CLOCK")
    static void countChangesNothing() {
        for (int what = 0; what <= 12; what++) {
            int asked = what;
            Twins.leaves("count(" + what + ")", x -> x.count(asked) < -9 ? 1 : 0, 0);
        }
    }
}
