import java.util.ArrayList;
import java.util.List;

/** Two objects with the same past: one is called, the other is not, and no later answer may tell them apart. */
final class Twins {
    /** A floor with every kind of person and grain. */
    static final String ALL = "WP0P1P2P3H5H0H9G3010G6100G2331G4033G1202G9122G5013";

    interface Past {
        WinnowedGuilt made();
    }

    interface Call {
        long on(WinnowedGuilt x);
    }

    private Twins() {
    }

    /**
     * An object with something of all that can be changed: a text with a fault, acts, slots, seen ones, a seed.
     * Person 0 holds the fan, the clock is 3, the wind 5; grain 5 is eaten, grain 6 gone, the tare is picked.
     */
    static WinnowedGuilt busy() {
        WinnowedGuilt x = Due.floor(ALL);
        x.write('P');
        x.see(0, 5, 1);
        x.see(3, 7, 0);
        x.seed(77);
        x.calm();
        x.keep(0);
        x.fan(1);
        x.toss(2);
        x.pick(2);
        x.keep(1);
        x.fan(0);
        x.toss(3);
        return x;
    }

    /** The call answers as due on a busy object, and changes nothing. */
    static void leaves(String name, Call call, long want) {
        leaves(name, Twins::busy, call, want);
    }

    static void leaves(String name, Past past, Call call, long want) {
        WinnowedGuilt called = past.made();
        Due.is(name, call.on(called), want);
        compare(name, undone(called), undone(past.made()));
        // Going on from a slot empties the row of acts, so that is told by another pair.
        WinnowedGuilt calledToo = past.made();
        Due.is(name, call.on(calledToo), want);
        compare(name, goneOn(calledToo), goneOn(past.made()));
    }

    private static void compare(String name, List<String> got, List<String> want) {
        for (int i = 0; i < Math.max(got.size(), want.size()); i++) {
            String one = i < got.size() ? got.get(i) : "no call";
            String other = i < want.size() ? want.get(i) : "no call";
            if (!one.equals(other)) {
                Due.holds(name + " changes nothing (then: " + one + ", without it: " + other + ")", false);
                return;
            }
        }
    }

    /** All that can be asked of what does not change by acts, then all acts undone one by one. */
    private static List<String> undone(WinnowedGuilt x) {
        List<String> told = new ArrayList<>();
        for (int what = 0; what <= 12; what++) {
            told.add("count(" + what + ") " + x.count(what));
        }
        int people = x.count(1);
        int grains = x.count(3);
        for (int person = 0; person < people; person++) {
            told.add("person(" + person + ", 0) " + x.person(person, 0));
        }
        for (int grain = 0; grain < grains; grain++) {
            told.add("grain(" + grain + ", 0) " + x.grain(grain, 0));
            told.add("grain(" + grain + ", 1) " + x.grain(grain, 1));
            told.add("grain(" + grain + ", 2) " + x.grain(grain, 2));
        }
        for (int kind = 0; kind <= 3; kind++) {
            told.add("weights(" + kind + ") " + x.weights(kind));
        }
        told.add("fault() " + x.fault());
        told.add("seed(0) " + x.seed(0));
        scene(told, x);
        for (int i = 0; i < 15; i++) {
            told.add("undo() " + x.undo());
            scene(told, x);
        }
        return told;
    }

    /** Both slots gone on from, then a day waited. */
    private static List<String> goneOn(WinnowedGuilt x) {
        List<String> told = new ArrayList<>();
        for (int slot = 0; slot <= 1; slot++) {
            told.add("again(" + slot + ") " + x.again(slot));
            scene(told, x);
        }
        for (int hour = 0; hour < 6; hour++) {
            told.add("calm() " + x.calm());
        }
        return told;
    }

    private static void scene(List<String> told, WinnowedGuilt x) {
        told.add("count(4) " + x.count(4));
        told.add("count(6) " + x.count(6));
        int grains = x.count(3);
        for (int grain = 0; grain < grains; grain++) {
            told.add("grain(" + grain + ", 3) " + x.grain(grain, 3));
        }
    }
}
