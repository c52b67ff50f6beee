/** Each promise by answers that were worked out by hand from the document. */
public final class PromisesTest {
    /** Plain one, boy, siever, miller; winds 5, 0, 9; every kind of grain. */
    private static final String ALL = "WP0P1P2P3H5H0H9G3010G6100G2331G4033G1202G9122G5013";
    /** Wind 3: the grain at place 0 is a deed of person 1, and flies there. */
    private static final String PAIR = "WP0P0H3G3010";

    private PromisesTest() {
    }

    private static void promise1NewObject() {
        WinnowedGuilt x = new WinnowedGuilt();
        for (int what = 0; what <= 12; what++) {
            Due.is("new: count(" + what + ")", x.count(what), what == 6 ? WinnowedGuilt.NONE : 0);
        }
        Due.is("new: fault()", x.fault(), 0);
        Due.is("new: person(0, 0)", x.person(0, 0), -1);
        Due.is("new: grain(0, 0)", x.grain(0, 0), -1);
        Due.is("new: seed(3)", x.seed(3), 0);
        Due.is("new: again(1)", x.again(1), -3);
        Due.is("new: undo()", x.undo(), -3);
        Due.is("new: weights(2)", x.weights(2), 1022);
        Due.is("new: best(3, true)", x.best(3, true), 1444);
    }

    private static void promise2Write() {
        WinnowedGuilt x = new WinnowedGuilt();
        for (int i = 1; i <= 56; i++) {
            Due.is("write no. " + i, x.write(i % 2 == 0 ? 0 : 255), i);
        }
        Due.is("write of a 57th", x.write('W'), -4);
        Due.is("write(256) when full", x.write(256), -2);
        Due.is("write(-1) when full", x.write(-1), -2);
        Due.is("letters", x.count(0), 56);
        Due.is("wipe", x.wipe(), 56);
        Due.is("write(-1)", x.write(-1), -2);
        Due.is("write(256)", x.write(256), -2);
        Due.is("write(least)", x.write(Integer.MIN_VALUE), -2);
        Due.is("write(most)", x.write(Integer.MAX_VALUE), -2);
        Due.is("letters after refusals", x.count(0), 0);
    }

    private static void promise3Wipe() {
        WinnowedGuilt x = Due.floor(ALL);
        Due.is("wipe", x.wipe(), 50);
        Due.is("wipe again", x.wipe(), 0);
        Due.is("letters", x.count(0), 0);
        Due.is("people stay", x.count(1), 4);
        Due.is("write behind", x.write('W'), 1);
    }

    private static void fault(String text, int want) {
        WinnowedGuilt x = new WinnowedGuilt();
        Due.write(x, text);
        Due.is("fault of " + text, x.fault(), want);
        Due.is("floor of " + text, x.floor() == WinnowedGuilt.STATE ? 1 : 0, want == WinnowedGuilt.NONE ? 0 : 1);
    }

    private static void promise4Fault() {
        fault("", 0);
        fault("X", 0);
        fault("w", 0);
        fault("PW", 0);
        fault("W", -9);
        fault("WW", 1);
        fault("W ", 1);
        fault("W0", 1);
        fault("WP", 2);
        fault("WP0", -9);
        fault("WP3", -9);
        fault("WP4", 2);
        fault("WP/", 2);
        fault("WPP", 2);
        fault("WP00", 3);
        fault("WH", 2);
        fault("WH0H9", -9);
        fault("WH:", 2);
        fault("WH/", 2);
        fault("WG", 1);
        fault("WH1G1000", 3);
        fault("WP0G", 4);
        fault("WP0G0", 4);
        fault("WP0G1", 5);
        fault("WP0G9", 5);
        fault("WP0G:", 4);
        fault("WP0G13", 6);
        fault("WP0G14", 5);
        fault("WP0G1/", 5);
        fault("WP0G130", 7);
        fault("WP0G131", 6);
        fault("WP0G1300", -9);
        fault("WP0G1301", 7);
        fault("WP0G130/", 7);
        fault("WP0G10/", 6);
        fault("WP0G1010P0", 6);
        fault("WP0P0G1010G1001", -9);
        fault("WP0G1000P0G1010", -9);
        fault("WP0P0P0P0", -9);
        fault("WP0P0P0P0P", 9);
        fault("WH0H0H0H0H0H0", -9);
        fault("WH0H0H0H0H0H0H", 13);
        fault("WP0G1000G1000G1000G1000G1000G1000G1000", -9);
        fault("WP0G1000G1000G1000G1000G1000G1000G1000G", 38);
        fault("WP3P3P3P3H9H9H9H9H9H9G9333G9333G9333G9333G9333G9333G9333", -9);
        // The length is set aside: no letter is wrong here, the text is only not at its end.
        fault("WH0H0H0H0H0H0P0P0P0P0G1000G1000G1000G1000G1000G1000G100", 55);
        fault("W" + (char) 256, -9);
        fault("W" + (char) 0, 1);
        fault("W" + (char) 255, 1);
    }

    private static void promise5Floor() {
        WinnowedGuilt x = Due.floor(ALL);
        Due.is("floor again", x.floor(), 437);
        Due.is("text stays", x.count(0), 50);
        x.toss(0);
        x.fan(2);
        x.keep(0);
        x.keep(1);
        x.see(1, 2, 3);
        x.seed(77);
        Due.write(x, "WX");
        Due.is("a fault", x.floor(), -3);
        Due.is("clock stays", x.count(4), 1);
        Due.is("holder stays", x.count(6), 2);
        Due.is("acts stay", x.count(11), 2);
        Due.is("people stay", x.count(1), 4);
        Due.is("grains stay", x.grain(0, 3), 1);
        Due.is("kept stays", x.again(1), 1);
        x.toss(0);
        Due.write(x, "WH7P2H8G9200");
        Due.is("another floor", x.floor(), 121);
        Due.is("clock anew", x.count(4), 0);
        Due.is("nobody holds", x.count(6), -9);
        Due.is("acts are none", x.count(11), 0);
        Due.is("undo", x.undo(), -3);
        Due.is("kept 0 is gone", x.again(0), -3);
        Due.is("kept 1 is gone", x.again(1), -3);
        Due.is("seen stays", x.count(12), 1);
        Due.is("seed stays", x.seed(0), 77);
        Due.is("wind", x.count(5), 7);
        Due.is("kind", x.person(0, 0), 2);
        Due.is("person 1", x.person(1, 0), -1);
        Due.is("grain 0", x.grain(0, 0), 9);
        Due.is("grain 1", x.grain(1, 0), -1);
        Due.write(x, "W");
        Due.is("an empty floor", x.floor(), 0);
        Due.is("nobody", x.count(1), 0);
    }

    private static void promise6Person() {
        WinnowedGuilt x = Due.floor(ALL);
        int[][] want = {{0, 5, 3, 3, 0, 6}, {1, 6, 2, 4, 0, 0}, {2, 5, 1, 48, 0, 9}, {3, 5, 9, 72, 0, 4}};
        for (int person = 0; person < 4; person++) {
            for (int what = 0; what < 6; what++) {
                Due.is("person(" + person + ", " + what + ")", x.person(person, what), want[person][what]);
            }
        }
        Due.is("person(4, 0)", x.person(4, 0), -1);
        Due.is("person(-1, 9)", x.person(-1, 9), -1);
        Due.is("person(0, 6)", x.person(0, 6), -2);
        Due.is("person(0, -1)", x.person(0, -1), -2);
        x.fan(1);
        Due.is("lift of a boy with the fan", x.person(1, 1), 8);
        x.calm();
        Due.is("lift in the next hour", x.person(1, 1), 3);
        x.calm();
        x.toss(3);
        Due.is("the miller has his own alone", x.person(3, 4), 1);
        Due.is("and its guilt", x.person(3, 2), 4);
        x.toss(0);
        Due.is("an empty place is clean", x.person(0, 4), 1);
        Due.is("an empty place has no guilt", x.person(0, 2), 0);
    }

    private static void promise7Grain() {
        WinnowedGuilt x = Due.floor(ALL);
        int[][] want = {
            {3, 0, 1, 0, 5, 1, 0},
            {6, 1, 0, 0, 7, 2, 1},
            {2, 3, 3, 1, 3, 2, 0},
            {4, 0, 3, 3, 5, 3, 1},
            {1, 2, 0, 2, 5, 2, 0},
            {9, 1, 2, 2, 7, 9, 1},
            {5, 0, 1, 3, 5, 8, 0}};
        for (int grain = 0; grain < 7; grain++) {
            for (int what = 0; what < 7; what++) {
                Due.is("grain(" + grain + ", " + what + ")", x.grain(grain, what), want[grain][what]);
            }
        }
        Due.is("grain(7, 0)", x.grain(7, 0), -1);
        Due.is("grain(-1, 9)", x.grain(-1, 9), -1);
        Due.is("grain(0, 7)", x.grain(0, 7), -2);
        Due.is("grain(0, -1)", x.grain(0, -1), -2);
        x.toss(2);
        x.calm();
        x.calm();
        x.toss(3);
        int[][] away = {{5, 9, 9}, {6, 8, 8}};
        for (int[] one : away) {
            Due.is("away: grain(" + one[0] + ", 3)", x.grain(one[0], 3), one[1]);
            Due.is("away: grain(" + one[0] + ", 4)", x.grain(one[0], 4), 0);
            Due.is("away: grain(" + one[0] + ", 5)", x.grain(one[0], 5), one[2]);
            Due.is("away: grain(" + one[0] + ", 6)", x.grain(one[0], 6), 0);
        }
        // A miller's deed flies from another's place; the wind reaches past one place by each 3 that it has more.
        WinnowedGuilt far = Due.floor("WP0P0P0P3H7G4030G5030G1030G9031");
        Due.is("3 more", far.grain(0, 5), 2);
        Due.is("2 more", far.grain(1, 5), 1);
        Due.is("6 more", far.grain(2, 5), 3);
        Due.is("too heavy", far.grain(3, 5), 1);
        WinnowedGuilt kinds = Due.floor("WP0P0P0H3G5100G1300G2300G1200");
        Due.is("a husk flies one more", kinds.grain(0, 5), 2);
        Due.is("a tare has half the lift", kinds.grain(1, 5), 1);
        Due.is("that is cut", kinds.grain(2, 5), 0);
        Due.is("a seed never", kinds.grain(3, 5), 0);
        WinnowedGuilt siever = Due.floor("WP2P0H1G9000G9200G9300G9100G9101");
        Due.is("a plain one is not eaten", siever.grain(0, 5), 0);
        Due.is("a seed is not eaten", siever.grain(1, 5), 0);
        Due.is("a tare is not eaten", siever.grain(2, 5), 0);
        Due.is("a husk is eaten", siever.grain(3, 5), 9);
        Due.is("only at a siever's", siever.grain(4, 5), 1);
    }

    private static void promise8Toss() {
        WinnowedGuilt x = Due.floor(ALL);
        Due.is("toss(4)", x.toss(4), -1);
        Due.is("toss(-1)", x.toss(-1), -1);
        Due.is("no act", x.count(11), 0);
        Due.is("toss(0)", x.toss(0), 2);
        Due.is("clock", x.count(4), 1);
        Due.is("acts", x.count(11), 1);
        Due.is("grain 0", x.grain(0, 3), 1);
        Due.is("grain 1", x.grain(1, 3), 2);
        Due.is("toss(1)", x.toss(1), 0);
        Due.is("toss(2)", x.toss(2), 2);
        Due.is("gone", x.count(8), 34);
        Due.is("seed lies", x.grain(4, 3), 2);
        Due.is("toss(3)", x.toss(3), 1);
        Due.is("gone", x.count(8), 98);
        Due.is("miller's own", x.grain(3, 3), 3);
        Due.is("clock", x.count(4), 4);
        WinnowedGuilt siever = Due.floor(ALL);
        Due.is("eaten ones did not fly", siever.toss(2), 0);
        Due.is("eaten", siever.count(9), 32);
    }

    private static void promise9Calm() {
        WinnowedGuilt x = Due.floor(ALL);
        Due.is("calm 1", x.calm(), 0);
        Due.is("calm 2", x.calm(), 9);
        Due.is("calm 3", x.calm(), 5);
        Due.is("calm 4", x.calm(), 0);
        Due.is("clock", x.count(4), 4);
        Due.is("acts", x.count(11), 4);
        Due.is("grains lie", x.person(0, 3), 3);
        Due.is("without hours", Due.floor("WP0").calm(), 0);
    }

    private static void promise10Pick() {
        WinnowedGuilt x = Due.floor(ALL);
        Due.is("pick(7)", x.pick(7), -1);
        Due.is("pick(-1)", x.pick(-1), -1);
        Due.is("pick of a plain one", x.pick(0), -3);
        Due.is("pick of a husk", x.pick(1), -3);
        Due.is("pick of a seed", x.pick(4), -3);
        Due.is("pick(2)", x.pick(2), 1);
        Due.is("it lies", x.grain(2, 3), 3);
        Due.is("pick(2) again", x.pick(2), -3);
        Due.is("acts", x.count(11), 1);
        Due.is("clock", x.count(4), 0);
        WinnowedGuilt gone = Due.floor("WP0P1H9G1310");
        Due.is("toss", gone.toss(0), 1);
        Due.is("gone", gone.grain(0, 3), 8);
        Due.is("picked out of the next parish", gone.pick(0), 8);
        Due.is("right", gone.grain(0, 6), 1);
    }

    private static void promise11Fan() {
        WinnowedGuilt x = Due.floor(ALL);
        Due.is("fan(4)", x.fan(4), -1);
        Due.is("fan(-9)", x.fan(-9), -1);
        Due.is("fan(1)", x.fan(1), -9);
        Due.is("fan(1) again", x.fan(1), -3);
        Due.is("fan(2)", x.fan(2), 1);
        Due.is("lift of 2", x.person(2, 1), 7);
        Due.is("lift of 1", x.person(1, 1), 6);
        Due.is("fan(0)", x.fan(0), 2);
        Due.is("holder", x.count(6), 0);
        Due.is("acts", x.count(11), 3);
        Due.is("clock", x.count(4), 0);
    }

    private static void promise12Undo() {
        WinnowedGuilt x = Due.floor(ALL);
        x.fan(3);
        x.pick(2);
        x.toss(2);
        x.calm();
        Due.is("undo of a calm", x.undo(), 3);
        Due.is("clock", x.count(4), 1);
        Due.is("undo of a toss", x.undo(), 2);
        Due.is("clock", x.count(4), 0);
        Due.is("not eaten", x.grain(5, 3), 2);
        Due.is("undo of a pick", x.undo(), 1);
        Due.is("tare", x.grain(2, 3), 1);
        Due.is("holder", x.count(6), 3);
        Due.is("undo of a fan", x.undo(), 0);
        Due.is("holder", x.count(6), -9);
        Due.is("undo of nothing", x.undo(), -3);
        for (int i = 0; i < 20; i++) {
            x.calm();
            Due.is("acts after " + (i + 1), x.count(11), Math.min(14, i + 1));
        }
        for (int left = 13; left >= 0; left--) {
            Due.is("undo", x.undo(), left);
        }
        Due.is("undo beyond", x.undo(), -3);
        Due.is("clock", x.count(4), 6);
    }

    private static void promise13Best() {
        WinnowedGuilt x = Due.floor(PAIR);
        Due.is("best(1, false)", x.best(1, false), 1);
        Due.is("best(1, true)", x.best(1, true), 10);
        Due.is("best(4, true)", x.best(4, true), 10000);
        Due.is("best(0, true)", x.best(0, true), -2);
        Due.is("best(5, false)", x.best(5, false), -2);
        Due.is("best(least, true)", x.best(Integer.MIN_VALUE, true), -2);
        Due.is("nothing changed", x.count(4) + x.count(11) + x.count(7), 0);
        WinnowedGuilt later = Due.floor("WP0P0H9H3G3010");
        Due.is("later: best(1, false)", later.best(1, false), 0);
        Due.is("later: best(1, true)", later.best(1, true), 10);
        Due.is("later: best(2, false)", later.best(2, false), 1);
        Due.is("later: best(2, true)", later.best(2, true), 110);
        WinnowedGuilt waits = Due.floor("WP0H9H0G3000");
        Due.is("waits: best(1, true)", waits.best(1, true), 14);
        Due.is("waits: best(2, true)", waits.best(2, true), 140);
        Due.is("waits: best(3, true)", waits.best(3, true), 1404);
        Due.is("waits: best(4, true)", waits.best(4, true), 14040);
        Due.is("waits: best(4, false)", waits.best(4, false), 1);
    }

    private static void promise14Fewest() {
        WinnowedGuilt x = Due.floor(PAIR);
        Due.is("fewest(0)", x.fewest(0), 1);
        Due.is("fewest(1)", x.fewest(1), 0);
        Due.is("fewest(2)", x.fewest(2), -1);
        Due.is("fewest(-1)", x.fewest(-1), -1);
        Due.is("nothing changed", x.count(4) + x.count(11) + x.count(7), 0);
        Due.is("in the third hour", Due.floor("WP0P0H0H0H3G3010").fewest(0), 3);
        Due.is("in the fourth hour", Due.floor("WP0P0H0H0H0H3G3010").fewest(0), 4);
        Due.is("in the fifth hour", Due.floor("WP0P0H0H0H0H0H3G3010").fewest(0), -9);
        Due.is("a seed", Due.floor("WP0P0H9G3210").fewest(0), -9);
    }

    private static void promise15When() {
        WinnowedGuilt x = Due.floor("WP0P0H0H1H3G3010G1201G4000G1110");
        Due.is("when(0)", x.when(0), 2);
        Due.is("when of a seed", x.when(1), -9);
        Due.is("when too heavy", x.when(2), -9);
        Due.is("when of a light husk", x.when(3), 0);
        Due.is("when(4)", x.when(4), -1);
        Due.is("when(-1)", x.when(-1), -1);
        x.calm();
        Due.is("an hour on", x.when(0), 1);
        x.fan(0);
        Due.is("with the fan", x.when(0), 0);
        Due.is("nothing changed", x.count(4), 1);
        x.toss(0);
        x.toss(1);
        Due.is("place of one that flew on", x.grain(0, 3), 8);
        Due.is("when of what is gone", x.when(0), -9);
        WinnowedGuilt eaten = Due.floor("WP2H0H9G5100");
        Due.is("ahead", eaten.when(0), 1);
        eaten.toss(0);
        Due.is("when of what is eaten", eaten.when(0), -9);
        Due.is("a miller's own", Due.floor("WP3H9G1000").when(0), -9);
        Due.is("a whole day on", Due.floor("WP0H0H0H0H0H0H9G9000").when(0), 5);
    }

    private static void promise16And17Votes() {
        WinnowedGuilt like = Due.floor("WP0P0H1G3010");
        Due.is("votes(0)", like.votes(0), 1);
        Due.is("votes(1)", like.votes(1), 1);
        Due.is("votes(2)", like.votes(2), -1);
        Due.is("votes(-1)", like.votes(-1), -1);
        Due.is("chosen of like ones", like.chosen(), 0);
        WinnowedGuilt x = Due.floor("WP0P0P0H4H4H0G3011G3011G5011");
        Due.is("votes(0)", x.votes(0), 1);
        Due.is("votes(1)", x.votes(1), 2);
        Due.is("votes(2)", x.votes(2), 0);
        Due.is("chosen", x.chosen(), 1);
        Due.is("nothing changed", x.count(4) + x.count(11) + x.count(8), 0);
        Due.is("nobody holds", x.count(6), -9);
        x.fan(2);
        Due.is("whoever holds it now", x.chosen(), 1);
        Due.is("holder stays", x.count(6), 2);
        Due.is("nobody is there", Due.floor("WH3").chosen(), -9);
    }

    private static void promise18Judge() {
        WinnowedGuilt x = Due.floor("WP0P0H3G3010G1310");
        Due.is("toss 0, 0 clean, 1 clean", x.judge(3, 3031), -9);
        Due.is("0 clean", x.judge(2, 3000), 0);
        Due.is("picked twice", x.judge(2, 1111), 1);
        Due.is("picked once", x.judge(1, 11), -9);
        Due.is("no tare", x.judge(1, 10), 0);
        Due.is("no grain", x.judge(1, 12), 0);
        Due.is("flown where it belongs, then picked", x.judge(2, 11), 1);
        Due.is("fan twice", x.judge(2, 2020), 1);
        Due.is("fan by both", x.judge(3, 202120), -9);
        Due.is("fan of nobody", x.judge(1, 22), 0);
        Due.is("clean of nobody", x.judge(2, 432), 1);
        Due.is("turn 2", x.judge(1, 2), 0);
        Due.is("turn 3", x.judge(1, 3), 0);
        Due.is("turn 4", x.judge(1, 4), -9);
        Due.is("turn 5", x.judge(1, 5), 0);
        Due.is("turn 9", x.judge(3, 904), 1);
        Due.is("doing 4 at the last", x.judge(4, 4040440), 3);
        Due.is("doing 9 at the last", x.judge(4, 99), 3);
        Due.is("most figures of 1", x.judge(1, 99), 0);
        Due.is("too many of 1", x.judge(1, 100), -2);
        Due.is("most figures of 4", x.judge(4, 99999999), 0);
        Due.is("too many of 4", x.judge(4, 100000000), -2);
        Due.is("most figures of 2", x.judge(2, 9999), 0);
        Due.is("too many of 2", x.judge(2, 10000), -2);
        Due.is("too many of 3", x.judge(3, 1000000), -2);
        Due.is("below 0", x.judge(1, -1), -2);
        Due.is("only 0", x.judge(4, 0), -9);
        Due.is("n 0", x.judge(0, 0), -2);
        Due.is("n 5", x.judge(5, 0), -2);
        Due.is("nothing changed", x.count(4) + x.count(11) + x.count(7), 0);
        Due.is("nobody holds", x.count(6), -9);
        // A wait lets the wind fall: only then the grain stays.
        WinnowedGuilt hours = Due.floor("WP0P0H3H0G3010");
        Due.is("toss in the wind", hours.judge(2, 30), -9);
        Due.is("toss behind a wait", hours.judge(3, 40030), 2);
        Due.is("toss with the fan behind a wait", hours.judge(4, 4200030), 3);
        Due.is("a fan takes no time", hours.judge(3, 210030), -9);
    }

    private static void promise19To21Seen() {
        WinnowedGuilt x = new WinnowedGuilt();
        Due.is("see(-1, 0, 0)", x.see(-1, 0, 0), -2);
        Due.is("see(4, 0, 0)", x.see(4, 0, 0), -2);
        Due.is("see(0, -1, 0)", x.see(0, -1, 0), -2);
        Due.is("see(0, 13, 0)", x.see(0, 13, 0), -2);
        Due.is("see(0, 0, -1)", x.see(0, 0, -1), -2);
        Due.is("see(0, 0, 6)", x.see(0, 0, 6), -2);
        Due.is("seen", x.count(12), 0);
        Due.is("weights(-1)", x.weights(-1), -2);
        Due.is("weights(4)", x.weights(4), -2);
        for (int kind = 0; kind < 4; kind++) {
            Due.is("nothing is seen of " + kind, x.weights(kind), 1022);
        }
        Due.is("see(0, 12, 4)", x.see(0, 12, 4), 1);
        Due.is("weights(0)", x.weights(0), 0b1110);
        Due.is("weights(1)", x.weights(1), 1022);
        Due.is("see(1, 12, 5)", x.see(1, 12, 5), 2);
        Due.is("weights(1)", x.weights(1), 0b111000);
        Due.is("see(1, 2, 2)", x.see(1, 2, 2), 3);
        Due.is("weights(1)", x.weights(1), 0b11000);
        Due.is("see(3, 9, 2)", x.see(3, 9, 2), 4);
        Due.is("weights(3)", x.weights(3), 0b10);
        Due.is("see(2, 12, 0)", x.see(2, 12, 0), 5);
        Due.is("weights(2)", x.weights(2), 1022);
        Due.is("see(2, 12, 5)", x.see(2, 12, 5), 6);
        Due.is("weights(2)", x.weights(2), 0);
        Due.is("see when full", x.see(0, 0, 0), -4);
        Due.is("see wrong when full", x.see(0, 0, 6), -2);
        Due.is("seen", x.count(12), 6);
        Due.is("unsee", x.unsee(), 6);
        Due.is("unsee again", x.unsee(), 0);
        Due.is("weights(2) anew", x.weights(2), 1022);
        Due.is("see anew", x.see(0, 1, 1), 1);
        Due.is("weights(0)", x.weights(0), 0b10);
        Due.is("see a husk that flew one place", x.see(1, 5, 1), 2);
        Due.is("there is no such husk", x.weights(1), 0);
    }

    private static void fraction(String name, WinnowedGuilt x, int person, int above, int below) {
        Due.is(name + " above, " + person, x.share(person, true), above);
        Due.is(name + " below, " + person, x.share(person, false), below);
    }

    private static void promise22Share() {
        WinnowedGuilt pair = Due.floor(PAIR);
        fraction("pair", pair, 0, 1, 2);
        fraction("pair", pair, 1, -1, 2);
        fraction("pair", pair, 2, -1, -1);
        fraction("pair", pair, -1, -1, -1);
        Due.is("nothing changed", pair.count(4) + pair.count(11) + pair.count(7), 0);
        WinnowedGuilt three = Due.floor("WP0P0P0H3H3H0G3021");
        fraction("three", three, 0, 1, 3);
        fraction("three", three, 1, 5, 6);
        fraction("three", three, 2, -1, 6);
        // Right if 0 has come and 1 has not, whoever else has.
        WinnowedGuilt four = Due.floor("WP0P0P0P0H3G3010");
        fraction("four", four, 0, 1, 2);
        fraction("four", four, 1, -1, 2);
        fraction("four", four, 2, 0, 1);
        fraction("nothing flies", Due.floor("WP0P0P0P0G1000"), 3, 0, 1);
        fraction("alone", Due.floor("WP0H9G1000G2000G1200"), 0, -2, 1);
        WinnowedGuilt later = Due.floor("WP0P0H0H3G3010");
        fraction("no wind now", later, 0, 0, 1);
        later.calm();
        fraction("from now on", later, 0, 1, 1);
    }

    private static void promise23Rests() {
        WinnowedGuilt x = Due.floor("WP0P0H1G3010");
        Due.is("rests(0, 1, 0)", x.rests(0, 1, 0), 2);
        Due.is("rests(0, 1, 1)", x.rests(0, 1, 1), 1);
        Due.is("rests(1, 0, 0)", x.rests(1, 0, 0), 2);
        Due.is("rests(1, 0, 1)", x.rests(1, 0, 1), 1);
        Due.is("rests(0, 2, 0)", x.rests(0, 2, 0), -1);
        Due.is("rests(-1, 0, 0)", x.rests(-1, 0, 0), -1);
        Due.is("rests(5, 5, 9)", x.rests(5, 5, 9), -1);
        Due.is("rests(0, 0, 0)", x.rests(0, 0, 0), -2);
        Due.is("rests(0, 1, 2)", x.rests(0, 1, 2), -2);
        Due.is("rests(0, 1, -1)", x.rests(0, 1, -1), -2);
        Due.is("nothing changed", x.count(4) + x.count(11), 0);
        x.fan(0);
        Due.is("one who has it: how many", x.rests(0, 1, 0), 3);
        Due.is("one who has it: the first", x.rests(0, 1, 1), 0);
        x.fan(1);
        Due.is("the other has it: how many", x.rests(0, 1, 0), 2);
        WinnowedGuilt husk = Due.floor("WP0P0H0G3110");
        Due.is("a husk is no guilt: how many", husk.rests(0, 1, 0), 3);
        Due.is("a husk is no guilt: the first", husk.rests(0, 1, 1), 0);
        Due.is("it flies as it is", Due.floor("WP0P0H3G3010").rests(0, 1, 0), 3);
        Due.is("a miller's own never", Due.floor("WP3P0H1G3000").rests(0, 1, 0), 3);
        Due.is("a third one's", Due.floor("WP0P0P0H1G3010").rests(1, 2, 0), 3);
    }

    private static void chance(String name, WinnowedGuilt x, int n, int tenths, int above, int below) {
        Due.is(name + " above, " + n + " " + tenths, x.gust(0, n, tenths, true), above);
        Due.is(name + " below, " + n + " " + tenths, x.gust(0, n, tenths, false), below);
    }

    private static void promise24Gust() {
        WinnowedGuilt x = Due.floor("WP0H0G3000");
        chance("one place", x, 1, 5, 1, 2);
        chance("one place", x, 2, 5, 3, 4);
        chance("one place", x, 5, 1, 40951, 100000);
        chance("one place", x, 5, 0, 0, 1);
        chance("one place", x, 1, 10, 1, 1);
        chance("one place", x, 0, 5, -2, -2);
        chance("one place", x, 6, 5, -2, -2);
        chance("one place", x, 1, -1, -2, -2);
        chance("one place", x, 1, 11, -2, -2);
        Due.is("gust(1, 0, 0, true)", x.gust(1, 0, 0, true), -1);
        Due.is("gust(1, 1, 1, false)", x.gust(1, 1, 1, false), -1);
        Due.is("gust(-1, 1, 1, false)", x.gust(-1, 1, 1, false), -1);
        Due.is("nothing changed", x.count(4) + x.count(11) + x.count(8), 0);
        WinnowedGuilt two = Due.floor("WP0P0H0G3000");
        chance("two places", two, 1, 5, 0, 1);
        chance("two places", two, 2, 5, 1, 4);
        chance("two places", two, 3, 5, 1, 2);
        WinnowedGuilt siever = Due.floor("WP2H0G5100");
        chance("a husk is eaten, if no gust comes", siever, 5, 3, 3, 10);
        chance("half of the lift with the gust", Due.floor("WP0H1G2300"), 1, 4, 2, 5);
        chance("hours go on", Due.floor("WP0H0H3G4000"), 2, 2, 1, 5);
        chance("a miller's own", Due.floor("WP3H9G1000"), 5, 10, 0, 1);
        WinnowedGuilt gone = Due.floor("WP0H9G1000");
        gone.toss(0);
        chance("gone already", gone, 1, 0, 1, 1);
        siever.toss(0);
        chance("eaten already", siever, 5, 10, 0, 1);
    }

    private static void promise25Seed() {
        WinnowedGuilt x = new WinnowedGuilt();
        Due.is("seed(5)", x.seed(5), 0);
        Due.is("seed(least)", x.seed(Long.MIN_VALUE), 5);
        Due.is("seed(most)", x.seed(Long.MAX_VALUE), Long.MIN_VALUE);
        Due.is("seed(0)", x.seed(0), Long.MAX_VALUE);
        x.years(1);
        Due.is("moved on", x.seed(0), 1442695040888963407L);
        x.years(12);
        Due.is("moved on twelve times", x.seed(0), 6736625987792804572L);
    }

    private static void years(String text, long seed, int m, int want) {
        WinnowedGuilt x = Due.floor(text);
        x.seed(seed);
        Due.is("years(" + m + ") of " + text + " by " + seed, x.years(m), want);
        Due.is("nothing changed", x.count(4) + x.count(11) + x.count(8), 0);
        Due.is("nobody holds", x.count(6), -9);
    }

    private static void promise26Years() {
        // By seed 37 the lots are 4 0 7, by 38 8 0 4, by 14 7 2 0, by 2 1 3 0, by 22 1 3 8.
        years("WP0H1G3000", 37, 1, 0);
        years("WP0H1G3000", 37, 2, 3);
        years("WP0H1G3000", 38, 2, 0);
        years("WP0H0H3G3000", 38, 2, 3);
        years("WP0H3H0G3000", 38, 2, 0);
        years("WP0H3H0G3000", 14, 3, 3);
        years("WP0H9G5100G4000G9200", 2, 3, 9);
        years("WP0P0P0P0H9G1003", 22, 1, 0);
        years("WP0P0P0P0H9G1003", 22, 2, 1);
        WinnowedGuilt x = Due.floor("WP0H9G5100G4000");
        x.toss(0);
        x.seed(4);
        Due.is("what is gone already", x.years(1), 9);
        x.seed(4);
        Due.is("years(0)", x.years(0), -2);
        Due.is("years(31)", x.years(31), -2);
        Due.is("years(-1)", x.years(-1), -2);
        Due.is("seed stays", x.seed(4), 4);
        Due.is("years(30)", x.years(30), 9);
    }

    private static void promise27And28Slots() {
        WinnowedGuilt x = Due.floor(ALL);
        Due.is("keep(-1)", x.keep(-1), -1);
        Due.is("keep(2)", x.keep(2), -1);
        Due.is("again(-1)", x.again(-1), -1);
        Due.is("again(2)", x.again(2), -1);
        Due.is("again(0)", x.again(0), -3);
        x.fan(1);
        x.toss(0);
        Due.is("keep(0)", x.keep(0), 1);
        Due.is("acts stay by a keep", x.count(11), 2);
        Due.is("again(1)", x.again(1), -3);
        Due.is("acts stay by a refusal", x.count(11), 2);
        x.fan(2);
        x.toss(3);
        x.pick(2);
        x.calm();
        Due.is("keep(1)", x.keep(1), 3);
        Due.is("again(0)", x.again(0), 1);
        Due.is("clock", x.count(4), 1);
        Due.is("holder", x.count(6), 1);
        Due.is("tare", x.grain(2, 3), 1);
        Due.is("grain 0", x.grain(0, 3), 1);
        Due.is("acts", x.count(11), 0);
        Due.is("undo", x.undo(), -3);
        x.calm();
        Due.is("again(1)", x.again(1), 3);
        Due.is("holder", x.count(6), 2);
        Due.is("tare", x.grain(2, 3), 3);
        Due.is("again(0) once more", x.again(0), 1);
        x.calm();
        Due.is("keep(0) over the old", x.keep(0), 2);
        x.calm();
        Due.is("again(0) has the new", x.again(0), 2);
    }

    private static void promise29Count() {
        WinnowedGuilt x = Due.floor(ALL);
        int[] first = {50, 4, 3, 7, 0, 5, -9, 42, 0, 0, 0, 0, 0};
        for (int what = 0; what < first.length; what++) {
            Due.is("count(" + what + ")", x.count(what), first[what]);
        }
        x.see(0, 1, 1);
        x.fan(3);
        x.toss(2);
        x.calm();
        x.toss(3);
        x.toss(0);
        x.write('P');
        // Wind 9 and the fan: the plain one of person 1 is gone; then wind 5 carries grain 0 to its own, grain 1 to 2.
        int[] then = {51, 4, 3, 7, 4, 0, 3, 9, 64, 32, 9, 5, 1};
        for (int what = 0; what < then.length; what++) {
            Due.is("then: count(" + what + ")", x.count(what), then[what]);
        }
        Due.is("count(13)", x.count(13), -2);
        Due.is("count(-1)", x.count(-1), -2);
    }

    public static void main(String[] args) {
        promise1NewObject();
        promise2Write();
        promise3Wipe();
        promise4Fault();
        promise5Floor();
        promise6Person();
        promise7Grain();
        promise8Toss();
        promise9Calm();
        promise10Pick();
        promise11Fan();
        promise12Undo();
        promise13Best();
        promise14Fewest();
        promise15When();
        promise16And17Votes();
        promise18Judge();
        promise19To21Seen();
        promise22Share();
        promise23Rests();
        promise24Gust();
        promise25Seed();
        promise26Years();
        promise27And28Slots();
        promise29Count();
        Due.end();
    }
}
