/** Boundary cases of promises 19 to 21: flights that are seen, and weights by them. */
final class SeenBoundaries {
    private static final int ALL_WEIGHTS = 1022;

    private SeenBoundaries() {
    }

    private static WinnowedGuilt full() {
        WinnowedGuilt x = Twins.busy();
        for (int i = 3; i <= 6; i++) {
            x.see(1, 12, 5);
        }
        return x;
    }

    private static void weights(int kind, int lift, int flew, int want) {
        WinnowedGuilt x = new WinnowedGuilt();
        x.see(kind, lift, flew);
        Due.is("weights(" + kind + ") by see(" + kind + ", " + lift + ", " + flew + ")", x.weights(kind), want);
    }

    /** Bits from one weight to another. */
    private static int bits(int from, int to) {
        int bits = 0;
        for (int weight = from; weight <= to; weight++) {
            bits += 1 << weight;
        }
        return bits;
    }

    // ---- promise 19

    @Says(promise = 19, words = "OUTSIDE: kind, lift, flew;")
    static void seenThatCanNotBe() {
        for (int kind : new int[] {-1, 4, Integer.MIN_VALUE, Integer.MAX_VALUE}) {
            Twins.leaves("see(" + kind + ", 0, 0)", x -> x.see(kind, 0, 0), Due.OUTSIDE);
        }
        for (int lift : new int[] {-1, 13, Integer.MIN_VALUE, Integer.MAX_VALUE}) {
            Twins.leaves("see(0, " + lift + ", 0)", x -> x.see(0, lift, 0), Due.OUTSIDE);
        }
        for (int flew : new int[] {-1, 6, Integer.MIN_VALUE, Integer.MAX_VALUE}) {
            Twins.leaves("see(0, 0, " + flew + ")", x -> x.see(0, 0, flew), Due.OUTSIDE);
        }
    }

    @Says(promise = 19, words = "that a GRAIN of a KIND (0 to 3) flew f (0 to 5) PLACES (0: it did not), by a LIFT at its PLACE of l (0 to 12)")
    static void leastAndMostOfEach() {
        WinnowedGuilt x = new WinnowedGuilt();
        Due.is("see(0, 0, 0)", x.see(0, 0, 0), 1);
        Due.is("see(3, 0, 0)", x.see(3, 0, 0), 2);
        Due.is("see(0, 12, 0)", x.see(0, 12, 0), 3);
        Due.is("see(0, 0, 5)", x.see(0, 0, 5), 4);
        Due.is("see(3, 12, 5)", x.see(3, 12, 5), 5);
    }

    @Says(promise = 19, words = "FULL: 6.")
    static void sixAreSeenAndNoSeventh() {
        WinnowedGuilt x = new WinnowedGuilt();
        for (int i = 1; i <= 6; i++) {
            Due.is("see no. " + i, x.see(0, 5, 1), i);
        }
        Due.is("see no. 7", x.see(0, 12, 5), Due.FULL);
        Due.is("count(12)", x.count(12), 6);
        Due.is("the seventh does not count", x.weights(0), bits(3, 5));
        Twins.leaves("see no. 7", SeenBoundaries::full, y -> y.see(2, 12, 5), Due.FULL);
    }

    @Says(promise = 19, words = "REFUSALS, of several the first that a call names")
    static void outsideComesAheadOfFull() {
        Twins.leaves("see(4, 0, 0) when full", SeenBoundaries::full, x -> x.see(4, 0, 0), Due.OUTSIDE);
        Twins.leaves("see(0, 13, 0) when full", SeenBoundaries::full, x -> x.see(0, 13, 0), Due.OUTSIDE);
        Twins.leaves("see(0, 0, 6) when full", SeenBoundaries::full, x -> x.see(0, 0, 6), Due.OUTSIDE);
    }

    @Says(promise = 19, words = "6 such at most, none at first")
    static void theSixthCounts() {
        WinnowedGuilt x = new WinnowedGuilt();
        for (int i = 1; i <= 5; i++) {
            x.see(2, 0, 0);
        }
        Due.is("weights(0) ahead", x.weights(0), ALL_WEIGHTS);
        Due.is("the sixth", x.see(0, 5, 1), 6);
        Due.is("weights(0)", x.weights(0), bits(3, 5));
    }

    // ---- promise 20

    @Says(promise = 20, words = "Nothing is SEEN: how much there was.")
    static void unseeOfNoneAndSix() {
        WinnowedGuilt x = new WinnowedGuilt();
        Due.is("unsee() of nothing", x.unsee(), 0);
        for (int i = 1; i <= 6; i++) {
            x.see(0, 12, 5);
        }
        Due.is("weights(0)", x.weights(0), 0);
        Due.is("unsee() of six", x.unsee(), 6);
        Due.is("unsee() again", x.unsee(), 0);
        Due.is("count(12)", x.count(12), 0);
        Due.is("weights(0) anew", x.weights(0), ALL_WEIGHTS);
        Due.is("see anew", x.see(0, 5, 1), 1);
        Due.is("weights(0) by that alone", x.weights(0), bits(3, 5));
    }

    @Says(promise = 20, words = "Nothing is SEEN")
    static void unseeLeavesAllElse() {
        Twins.leaves("unsee(), then the same seen", x -> {
            int was = x.unsee();
            x.see(0, 5, 1);
            x.see(3, 7, 0);
            return was;
        }, 2);
    }

    // ---- promise 21

    @Says(promise = 21, words = "OUTSIDE: kind.")
    static void weightsOfNoKind() {
        for (int kind : new int[] {-1, 4, Integer.MIN_VALUE, Integer.MAX_VALUE}) {
            Twins.leaves("weights(" + kind + ")", x -> x.weights(kind), Due.OUTSIDE);
        }
    }

    @Says(promise = 21, words = "WEIGHTS of a KIND: those (bits 1 to 9) that such a one may have")
    static void allWeightsAndNone() {
        for (int kind = 0; kind <= 3; kind++) {
            Due.is("nothing seen: weights(" + kind + ")", new WinnowedGuilt().weights(kind), ALL_WEIGHTS);
        }
        WinnowedGuilt x = new WinnowedGuilt();
        x.see(0, 9, 1);
        Due.is("from 7 to 9", x.weights(0), bits(7, 9));
        x.see(0, 6, 1);
        Due.is("from 4 to 6 too: none", x.weights(0), 0);
    }

    @Says(promise = 21, words = "so that all that is SEEN of that KIND is so")
    static void otherKindsDoNotCount() {
        WinnowedGuilt x = new WinnowedGuilt();
        x.see(0, 5, 1);
        x.see(1, 5, 1);
        x.see(2, 12, 0);
        x.see(3, 9, 1);
        x.see(3, 7, 0);
        Due.is("weights(0)", x.weights(0), bits(3, 5));
        Due.is("weights(1)", x.weights(1), 0);
        Due.is("weights(2)", x.weights(2), ALL_WEIGHTS);
        // By half of 9 it is 2 to 4, by half of 7 more than 3.
        Due.is("weights(3)", x.weights(3), bits(4, 4));
    }

    @Says(promise = 21, words = "(0: it did not)")
    static void itDidNotFly() {
        weights(0, 0, 0, ALL_WEIGHTS);
        weights(0, 1, 0, bits(2, 9));
        weights(0, 8, 0, bits(9, 9));
        weights(0, 9, 0, 0);
        weights(1, 0, 0, bits(3, 9));
        weights(1, 6, 0, bits(9, 9));
        weights(1, 7, 0, 0);
        weights(3, 0, 0, ALL_WEIGHTS);
        weights(3, 1, 0, ALL_WEIGHTS);
        weights(3, 2, 0, bits(2, 9));
        weights(3, 12, 0, bits(7, 9));
    }

    @Says(promise = 21, words = "by how much it is more by 3 (cut) and 1 PLACES on (HUSK: 1 more)")
    static void itFlewSoFar() {
        weights(0, 0, 1, 0);
        weights(0, 1, 1, bits(1, 1));
        weights(0, 12, 1, 0);
        weights(0, 12, 2, bits(7, 9));
        weights(0, 12, 4, bits(1, 3));
        weights(0, 12, 5, 0);
        weights(1, 0, 1, 0);
        weights(1, 0, 2, bits(1, 2));
        weights(1, 12, 1, 0);
        weights(1, 12, 3, bits(9, 9));
        weights(1, 12, 5, bits(3, 5));
        weights(3, 12, 1, bits(4, 6));
        weights(3, 12, 2, bits(1, 3));
        weights(3, 12, 3, 0);
        weights(3, 3, 1, bits(1, 1));
    }

    @Says(promise = 21, words = "(a SEED never;")
    static void seedsNeverFlew() {
        weights(2, 12, 0, ALL_WEIGHTS);
        weights(2, 0, 0, ALL_WEIGHTS);
        weights(2, 12, 1, 0);
        weights(2, 12, 5, 0);
    }

    @Says(promise = 21, words = "WEIGHTS of a KIND")
    static void weightsChangeNothing() {
        Twins.leaves("weights(0)", x -> x.weights(0), bits(3, 5));
        Twins.leaves("weights(3)", x -> x.weights(3), bits(4, 9));
    }
}
