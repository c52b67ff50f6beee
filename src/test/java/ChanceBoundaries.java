/** Boundary cases of promises 22 to 26: shares, the fan at rest, gusts, the seed, years. */
final class ChanceBoundaries {
    private static final String PAIR = "WP0P0H3G3010";

    private ChanceBoundaries() {
    }

    private static void share(String text, int person, int above, int below) {
        WinnowedGuilt x = Due.floor(text);
        Due.is("of " + text + " share(" + person + ", true)", x.share(person, true), above);
        Due.is("of " + text + " share(" + person + ", false)", x.share(person, false), below);
    }

    private static void rests(String name, WinnowedGuilt x, int one, int other, int many, int first) {
        Due.is(name + ": rests(" + one + ", " + other + ", 0)", x.rests(one, other, 0), many);
        Due.is(name + ": rests(" + one + ", " + other + ", 1)", x.rests(one, other, 1), first);
    }

    private static void gust(String name, WinnowedGuilt x, int n, int tenths, int above, int below) {
        Due.is(name + ": gust(0, " + n + ", " + tenths + ", true)", x.gust(0, n, tenths, true), above);
        Due.is(name + ": gust(0, " + n + ", " + tenths + ", false)", x.gust(0, n, tenths, false), below);
    }

    private static void gust(String text, int n, int tenths, int above, int below) {
        gust("of " + text, Due.floor(text), n, tenths, above, below);
    }

    private static void years(String text, long seed, int m, int want) {
        Twins.leaves("of " + text + " years(" + m + ") by " + seed, () -> {
            WinnowedGuilt x = Due.floor(text);
            x.seed(0);
            return x;
        }, x -> {
            x.seed(seed);
            int gone = x.years(m);
            x.seed(0);
            return gone;
        }, want);
    }

    // ---- promise 22

    @Says(promise = 22, words = "SHARE. UNKNOWN.")
    static void shareOfNobody() {
        for (int person : new int[] {-1, 4, 31, Integer.MIN_VALUE, Integer.MAX_VALUE}) {
            Twins.leaves("share(" + person + ", true)", x -> x.share(person, true), Due.UNKNOWN);
        }
    }

    @Says(promise = 22, words = "refusals of them are told likewise")
    static void shareIsRefusedBelowToo() {
        for (int person : new int[] {-1, 4, 31, Integer.MIN_VALUE, Integer.MAX_VALUE}) {
            Twins.leaves("share(" + person + ", false)", x -> x.share(person, false), Due.UNKNOWN);
        }
        share(PAIR, 2, Due.UNKNOWN, Due.UNKNOWN);
    }

    @Says(promise = 22, words = "FRACTIONS are told above (upper = true; below 0, if they are), below (1 and more)")
    static void nothingLessAndMore() {
        share("WP0", 0, 0, 1);
        share("WP0P0P0P0H9", 3, 0, 1);
        share("WP0H9G1000", 0, -1, 1);
        share("WP0H9G1000G1000G1000G1000G1000G1000G1000", 0, -7, 1);
        // Right if 0 has come and 1 has not.
        share("WP0P0H3G3010G3010G3010G3010G3010G3010G3010", 0, 7, 2);
        share("WP0P0H3G3010G3010G3010G3010G3010G3010G3010", 1, -7, 2);
        // Behind a toss at 0 there is no wind for 1.
        share("WP0P0H3H0G3010G3010G3010G3010G3010G3010G3010", 0, 7, 1);
        share("WP0P0H3H0G3010G3010G3010G3010G3010G3010G3010", 1, 0, 1);
    }

    @Says(promise = 22, words = "in least terms")
    static void shareInLeastTerms() {
        // Of 24 orders 12, and of 2 two.
        share("WP0P0P0P0H3G3010", 0, 1, 2);
        share("WP0P0P0P0H3G3010", 1, -1, 2);
        share("WP0P0P0P0H3G3010", 2, 0, 1);
        share("WP0P0H3G3010G3010", 0, 1, 1);
    }

    @Says(promise = 22, words = "if PEOPLE come one by one, in each order as likely")
    static void fourPeopleInEachOrder() {
        // 3's own flies if just one other has tossed ahead. 3 takes it as the second of four: -1/4. 0 takes it as the
        // second behind 3 (1/12), and gives it back as the third behind 3 and 1, or 3 and 2 (1/12 each).
        String second = "WP0P0P0P0H0H9H0H0G9033";
        share(second, 3, -1, 4);
        share(second, 0, 1, 12);
        share(second, 1, 1, 12);
        share(second, 2, 1, 12);
        // It flies if all have come: each takes it as the last.
        String last = "WP0P0P0P0H0H0H0H9G9033";
        for (int person = 0; person < 4; person++) {
            share(last, person, -1, 4);
        }
    }

    @Says(promise = 22, words = "those that have come toss at their PLACES once each, by number, from now on")
    static void sharesFromNowOn() {
        WinnowedGuilt x = Due.floor("WP0P0H0H3G3010");
        Due.is("no wind yet: share(0, true)", x.share(0, true), 0);
        x.calm();
        Due.is("in the wind: share(0, true)", x.share(0, true), 1);
        Due.is("in the wind: share(0, false)", x.share(0, false), 1);
        // A toss at 1 ahead of one at 0 would give 0 the wind of the second hour.
        share("WP0P0H0H3G3010", 0, 0, 1);
        share("WP0P0H0H3G3010", 1, 0, 1);
        // The fan counts, where it is.
        WinnowedGuilt fan = Due.floor("WP0H7G9000");
        Due.is("without the fan", fan.share(0, true), 0);
        fan.fan(0);
        Due.is("with the fan", fan.share(0, true), -1);
    }

    @Says(promise = 22, words = "by how many in the mean GRAINS that are RIGHT then are more when it has come than they were")
    static void shareChangesNothing() {
        Twins.leaves("share(0, true)", () -> Due.floor(PAIR), x -> x.share(0, true), 1);
        Twins.leaves("share(1, false)", () -> Due.floor(PAIR), x -> x.share(1, false), 2);
    }

    // ---- promise 23

    @Says(promise = 23, words = "UNKNOWN: both;")
    static void restsOfNobody() {
        for (int person : new int[] {-1, 4, Integer.MIN_VALUE, Integer.MAX_VALUE}) {
            Twins.leaves("rests(" + person + ", 0, 0)", x -> x.rests(person, 0, 0), Due.UNKNOWN);
            Twins.leaves("rests(0, " + person + ", 1)", x -> x.rests(0, person, 1), Due.UNKNOWN);
        }
        Due.is("of two, rests(1, 2, 0)", Due.floor(PAIR).rests(1, 2, 0), Due.UNKNOWN);
    }

    @Says(promise = 23, words = "OUTSIDE: both are one, what.")
    static void restsOfOneWithItself() {
        for (int person = 0; person < 4; person++) {
            int one = person;
            Twins.leaves("rests(" + one + ", " + one + ", 0)", x -> x.rests(one, one, 0), Due.OUTSIDE);
            Twins.leaves("rests(" + one + ", " + one + ", 1)", x -> x.rests(one, one, 1), Due.OUTSIDE);
        }
    }

    @Says(promise = 23, words = "both are one, what.")
    static void nothingElseIsToldOfRests() {
        for (int what : new int[] {-1, 2, Integer.MIN_VALUE, Integer.MAX_VALUE}) {
            Twins.leaves("rests(0, 1, " + what + ")", x -> x.rests(0, 1, what), Due.OUTSIDE);
        }
    }

    @Says(promise = 23, words = "REFUSALS, of several the first that a call names: UNKNOWN (there is no such PERSON, GRAIN, SLOT), OUTSIDE")
    static void unknownRestsComeAheadOfOutside() {
        Due.is("rests(4, 4, 0)", Twins.busy().rests(4, 4, 0), Due.UNKNOWN);
        Due.is("rests(-1, 0, 2)", Twins.busy().rests(-1, 0, 2), Due.UNKNOWN);
        Due.is("rests(0, 4, -1)", Twins.busy().rests(0, 4, -1), Due.UNKNOWN);
    }

    @Says(promise = 23, words = "if one does alone, it has how much of its GUILT would FLY, if it held the FAN and tossed now")
    static void grabbingForMore() {
        // Only with the fan it flies: to let it be is no rest for who has it.
        rests("the one's", Due.floor("WP0P0H1G3010"), 0, 1, 2, 1);
        rests("the other's", Due.floor("WP0P0H1G3010"), 1, 0, 2, 1);
        rests("the last one's", Due.floor("WP0P0P0P0H1G3033"), 3, 0, 2, 1);
        rests("more of it", Due.floor("WP0P0H3G3010G5010"), 0, 1, 2, 1);
        rests("too heavy by 1", Due.floor("WP0P0H1G4010"), 0, 1, 3, 0);
        rests("a boy's", Due.floor("WP1P0H1G4010"), 0, 1, 2, 1);
        rests("in the next hour", Due.floor("WP0P0H0H1G3010"), 0, 1, 3, 0);
        rests("a third one's", Due.floor("WP0P0P0H1G3010"), 1, 2, 3, 0);
    }

    @Says(promise = 23, words = "who does not has how much of it would FLY as it is now")
    static void lettingItBe() {
        rests("nothing at all", Due.floor("WP0P0"), 0, 1, 3, 0);
        rests("it flies anyway", Due.floor(PAIR), 0, 1, 3, 0);
        WinnowedGuilt x = Due.floor("WP0P0H1G3010");
        x.fan(0);
        rests("the one holds it", x, 0, 1, 3, 0);
        x.fan(1);
        rests("the other holds it", x, 0, 1, 2, 1);
    }

    @Says(promise = 23, words = "if both do, each loses 2")
    static void bothGrabIsNeverAtRest() {
        // 00, 01 and 10 are at rest, 11 is not: who lets it be has more.
        rests("nothing at all", Due.floor("WP0P0"), 1, 0, 3, 0);
        // Both have what flies by the fan alone: 01 and 10.
        rests("both want it", Due.floor("WP0P0H1G3010G3001"), 0, 1, 2, 1);
        rests("both want much", Due.floor("WP0P0H7G9010G9001"), 1, 0, 2, 1);
    }

    @Says(promise = 23, words = "(HUSKS set aside)")
    static void husksAreNoGuiltAtRest() {
        rests("a husk", Due.floor("WP0P0H0G3110"), 0, 1, 3, 0);
        rests("a seed", Due.floor("WP0P0H1G3210"), 0, 1, 3, 0);
        rests("a miller's own", Due.floor("WP3P0H1G3000"), 0, 1, 3, 0);
        rests("another's at a miller's", Due.floor("WP3P0H1G3010"), 0, 1, 2, 1);
        rests("a tare by half", Due.floor("WP0P0H2G2310"), 0, 1, 2, 1);
    }

    @Says(promise = 23, words = "RESTS: how many (what = 0), the first (1); NONE.")
    static void restsChangeNothing() {
        Twins.leaves("rests(0, 1, 0)", () -> Due.floor("WP0P0H1G3010"), x -> x.rests(0, 1, 0), 2);
        Twins.leaves("rests(0, 1, 1)", () -> Due.floor("WP0P0H1G3010"), x -> x.rests(0, 1, 1), 1);
        // 0 holds the fan already, and 3 has but a miller's own.
        Twins.leaves("rests(0, 3, 0), busy", x -> x.rests(0, 3, 0), 3);
    }

    // ---- promise 24

    @Says(promise = 24, words = "GUST. UNKNOWN; OUTSIDE: n, x.")
    static void gustOfNoGrain() {
        for (int grain : new int[] {-1, 7, Integer.MIN_VALUE, Integer.MAX_VALUE}) {
            Twins.leaves("gust(" + grain + ", 1, 1, true)", x -> x.gust(grain, 1, 1, true), Due.UNKNOWN);
        }
        Due.is("of one, gust(1, 1, 1, true)", Due.floor(PAIR).gust(1, 1, 1, true), Due.UNKNOWN);
    }

    @Says(promise = 24, words = "OUTSIDE: n, x.")
    static void gustsOutside() {
        for (int n : new int[] {0, 6, -1, Integer.MIN_VALUE, Integer.MAX_VALUE}) {
            Twins.leaves("gust(0, " + n + ", 5, true)", x -> x.gust(0, n, 5, true), Due.OUTSIDE);
        }
        for (int tenths : new int[] {-1, 11, Integer.MIN_VALUE, Integer.MAX_VALUE}) {
            Twins.leaves("gust(0, 1, " + tenths + ", true)", x -> x.gust(0, 1, tenths, true), Due.OUTSIDE);
        }
    }

    @Says(promise = 24, words = "refusals of them are told likewise")
    static void gustsAreRefusedBelowToo() {
        Twins.leaves("gust(7, 1, 1, false)", x -> x.gust(7, 1, 1, false), Due.UNKNOWN);
        Twins.leaves("gust(-1, 1, 1, false)", x -> x.gust(-1, 1, 1, false), Due.UNKNOWN);
        Twins.leaves("gust(0, 0, 1, false)", x -> x.gust(0, 0, 1, false), Due.OUTSIDE);
        Twins.leaves("gust(0, 6, 1, false)", x -> x.gust(0, 6, 1, false), Due.OUTSIDE);
        Twins.leaves("gust(0, 1, -1, false)", x -> x.gust(0, 1, -1, false), Due.OUTSIDE);
        Twins.leaves("gust(0, 1, 11, false)", x -> x.gust(0, 1, 11, false), Due.OUTSIDE);
    }

    @Says(promise = 24, words = "REFUSALS, of several the first that a call names: UNKNOWN (there is no such PERSON, GRAIN, SLOT), OUTSIDE")
    static void unknownGustComesAheadOfOutside() {
        Due.is("gust(7, 0, 1, true)", Twins.busy().gust(7, 0, 1, true), Due.UNKNOWN);
        Due.is("gust(-1, 1, 11, false)", Twins.busy().gust(-1, 1, 11, false), Due.UNKNOWN);
    }

    @Says(promise = 24, words = "n times (1 to 5) its PLACE, wherever it lies, is TOSSED from now on")
    static void onceToFiveTimes() {
        gust("WP0H0G3000", 1, 1, 1, 10);
        gust("WP0H0G3000", 5, 1, 40951, 100000);
        gust("WP0H0G3000", 5, 9, 99999, 100000);
        // A place on by each gust: both, or two of three at least.
        gust("WP0P0H0G3000", 1, 5, 0, 1);
        gust("WP0P0H0G3000", 2, 5, 1, 4);
        gust("WP0P0H0G3000", 3, 5, 1, 2);
        // Of four places it needs four.
        gust("WP0P0P0P0H0G3000", 3, 10, 0, 1);
        gust("WP0P0P0P0H0G3000", 4, 9, 6561, 10000);
        gust("WP0P0P0P0H0G3003", 1, 9, 9, 10);
    }

    @Says(promise = 24, words = "each time THE WIND is 3 more by x tenths (0 to 10), by itself")
    static void noneToTenTenths() {
        gust("WP0H0G3000", 1, 0, 0, 1);
        gust("WP0H0G3000", 5, 0, 0, 1);
        gust("WP0H0G3000", 1, 10, 1, 1);
        gust("WP0H0G3000", 2, 3, 51, 100);
        gust("WP0H3G3000", 1, 0, 1, 1);
        gust("WP0H0G4000", 5, 10, 0, 1);
        gust("WP0G3000", 1, 10, 1, 1);
        gust("WP0H0G1300", 1, 4, 2, 5);
        gust("WP0H0G2300", 5, 10, 0, 1);
        gust("WP0H1G2300", 1, 10, 1, 1);
        gust("WP0H0G5100", 1, 7, 7, 10);
        gust("WP1H0G4000", 1, 7, 7, 10);
        // Lift 9 by the gust flies three places, lift 6 two.
        gust("WP0P0P0P0H6G3000", 1, 2, 0, 1);
        gust("WP0P0P0H6G3000", 1, 2, 1, 5);
        gust("WP0P0H6G3000", 1, 2, 1, 1);
        gust("WP0P0P0H6G1000", 1, 2, 1, 5);
    }

    @Says(promise = 24, words = "is TOSSED from now on")
    static void hoursGoOnInGusts() {
        gust("WP0H0H9G9000", 1, 10, 0, 1);
        gust("WP0H0H9G9000", 2, 0, 1, 1);
        gust("an hour on", Due.floor("WP0H0H9G9000", 1), 1, 0, 1, 1);
        gust("WP0H0H0H0H0H9G9000", 4, 10, 0, 1);
        gust("WP0H0H0H0H0H9G9000", 5, 0, 1, 1);
        WinnowedGuilt fan = Due.floor("WP0H0G5000");
        gust("without the fan", fan, 1, 10, 0, 1);
        fan.fan(0);
        gust("with the fan", fan, 1, 10, 1, 1);
    }

    @Says(promise = 24, words = "that it is GONE then: a FRACTION")
    static void whatIsGoneEatenOrNeverFlies() {
        gust("WP0H9G1200", 5, 10, 0, 1);
        gust("WP3H9G1000", 5, 10, 0, 1);
        // A gust at once, or it is eaten.
        gust("WP2H0G5100", 1, 3, 3, 10);
        gust("WP2H0G5100", 5, 3, 3, 10);
        WinnowedGuilt gone = Due.floor("WP0H9G1000");
        gone.toss(0);
        gust("gone", gone, 1, 0, 1, 1);
        gust("gone", gone, 5, 10, 1, 1);
        WinnowedGuilt eaten = Due.floor("WP2H0G9100");
        eaten.toss(0);
        gust("eaten", eaten, 1, 0, 0, 1);
        gust("eaten", eaten, 5, 10, 0, 1);
    }

    @Says(promise = 24, words = "in least terms")
    static void gustInLeastTerms() {
        gust("WP0H0G3000", 1, 2, 1, 5);
        gust("WP0H0G3000", 1, 5, 1, 2);
        gust("WP0H0G3000", 2, 5, 3, 4);
        gust("WP0H0G3000", 5, 5, 31, 32);
        gust("WP0P0P0P0H0G3000", 5, 5, 3, 16);
    }

    @Says(promise = 24, words = "GUST for a GRAIN")
    static void gustChangesNothing() {
        Twins.leaves("gust(0, 5, 5, true)", () -> Due.floor("WP0H0G3000"), x -> x.gust(0, 5, 5, true), 31);
        Twins.leaves("gust(5, 1, 5, false), eaten", x -> x.gust(5, 1, 5, false), 1);
    }

    // ---- promise 25

    @Says(promise = 25, words = "THE SEED is v: what it was.")
    static void leastAndMostSeed() {
        WinnowedGuilt x = new WinnowedGuilt();
        long[] seeds = {0, 1, -1, Long.MAX_VALUE, Long.MIN_VALUE, 1L << 32, -(1L << 33), 0};
        long was = 0;
        for (long seed : seeds) {
            Due.is("seed(" + seed + ")", x.seed(seed), was);
            was = seed;
        }
    }

    @Says(promise = 25, words = "THE SEED, a long; 0 at first")
    static void seedIsNoughtAtFirst() {
        Due.is("seed(3)", new WinnowedGuilt().seed(3), 0);
        Due.is("seed(3) behind a floor", Due.floor("WP0").seed(3), 0);
    }

    @Says(promise = 25, words = "THE SEED is v")
    static void seedLeavesAllElse() {
        Twins.leaves("seed(5), and back", x -> {
            long was = x.seed(5);
            x.seed(was);
            return was;
        }, 77);
    }

    // ---- promise 26

    @Says(promise = 26, words = "OUTSIDE: m.")
    static void noYearsOrTooMany() {
        for (int m : new int[] {0, 31, -1, Integer.MIN_VALUE, Integer.MAX_VALUE}) {
            Twins.leaves("years(" + m + ")", x -> x.years(m), Due.OUTSIDE);
        }
    }

    @Says(promise = 26, words = "m times (1 to 30)")
    static void oneToThirtyYears() {
        // By seed 3 the 30th lot is the first 0; by seed 107 the first one is.
        years("WP0H9G9000", 3, 29, 0);
        years("WP0H9G9000", 3, 30, 9);
        years("WP0H9G9000", 107, 1, 9);
    }

    @Says(promise = 26, words = "x times 6364136223846793005 and 1442695040888963407 (64 bits, wrapping)")
    static void seedWraps() {
        WinnowedGuilt x = new WinnowedGuilt();
        long[][] next = {
            {0, 1442695040888963407L},
            {1, 7806831264735756412L},
            {2, -4275776585127002199L},
            {-1, -4921441182957829598L},
            {107, -124259734757594850L}};
        for (long[] pair : next) {
            x.seed(pair[0]);
            x.years(1);
            Due.is("the seed behind " + pair[0], x.seed(0), pair[1]);
        }
        // One year after another goes on from where the seed is.
        x.seed(2);
        x.years(12);
        x.years(18);
        long apart = x.seed(2);
        x.years(30);
        Due.is("30 years at once", x.seed(0), apart);
    }

    @Says(promise = 26, words = "its upper 31 bits by 9, what is left")
    static void lotsByTheUpperBits() {
        // The least and the greatest seed have lots 0 and 3 first; behind 107 and 133 x is below 0, and so they have.
        years("WP0P0P0P0H9G9000G8003", Long.MIN_VALUE, 1, 0);
        years("WP0P0P0P0H9G9000G8003", Long.MAX_VALUE, 1, 8);
        years("WP0H9G9000", Long.MIN_VALUE, 1, 9);
        years("WP0H9G9000", 107, 1, 9);
        years("WP0P0P0P0H9G8003", 133, 1, 8);
    }

    @Says(promise = 26, words = "0 to 3 that PLACE is TOSSED, if there is such a one")
    static void firstAndLastPlaceAreTossed() {
        // Seed 107 has lot 0 first, 2 has 1, 4 has 2, 133 has 3.
        long[] seeds = {107, 2, 4, 133};
        for (int place = 0; place < 4; place++) {
            years("WP1P1P1P1H9G1100G2101G3102G4103", seeds[place], 1, place + 1);
        }
        // 2 has lots 1 and 3 first: of three people the second year leaves all as it is.
        years("WP0P0P0P0H9G9003", 2, 2, 9);
        years("WP0P0P0H9G9002", 2, 2, 0);
        // 14 has lots 7, 2, 0: of one person both first years change nothing, the clock neither.
        years("WP0H9H0H0G9000", 14, 3, 9);
        years("WP0H0H9H9G9000", 14, 3, 0);
        // The greatest seed has lots 3, 4, 0, 0: the second toss is in the next hour.
        years("WP0H0H7G9000", Long.MAX_VALUE, 3, 0);
        years("WP0H0H7G9000", Long.MAX_VALUE, 4, 9);
    }

    @Says(promise = 26, words = "4 to 7 that less 4 PERSON takes the FAN, if there is such a one")
    static void firstAndLastPersonTakesTheFan() {
        // 37 has lots 4, 0; 45 has 7, 3.
        years("WP0H7G9000", 37, 1, 0);
        years("WP0H7G9000", 37, 2, 9);
        years("WP0H6G9000", 37, 2, 0);
        years("WP0P0P0P0H7G9003", 45, 2, 9);
        // It takes no time.
        years("WP0H7H0G9000", 37, 2, 9);
        // 16 has lots 7, 0, and 39 has 4, 7, 0: there is no person 3, so the clock and the fan stay.
        years("WP0H7H9G9000", 16, 2, 0);
        years("WP0H7G9000", 39, 3, 9);
        years("WP0P0P0H7G3000", 39, 3, 3);
    }

    @Says(promise = 26, words = "8 WAITED")
    static void waitedYears() {
        // 38 has lots 8, 0.
        years("WP0H0H9G9000", 38, 1, 0);
        years("WP0H0H9G9000", 38, 2, 9);
        years("WP0H9H0G9000", 38, 2, 0);
    }

    @Says(promise = 26, words = "WEIGHTS of what is GONE at last, together (HUSKS, too).")
    static void nothingAndAllIsGone() {
        years("W", 107, 30, 0);
        years("WP0H0G1000", 107, 1, 0);
        years("WP0H9G9000G9000G9000G9000G9100G9100G9100", 107, 1, 63);
        years("WP2H0G9100G2100", 107, 1, 2);
        WinnowedGuilt x = Due.floor("WP0H9G5100G4000");
        x.toss(0);
        x.seed(4);
        Due.is("gone already: years(1)", x.years(1), 9);
    }

    @Says(promise = 26, words = "(Nothing changes but THE SEED.)")
    static void onlyTheSeedChanges() {
        Twins.leaves("years(30), and the seed back", x -> {
            int gone = x.years(30) >= 0 ? 0 : 1;
            long was = x.seed(77);
            return was == 77 ? -1 : gone;
        }, 0);
    }
}
