/** Counts and prints answers that are not as due; shared by the tests of the project. */
final class Due {
    private static int wrong = 0;
    private static int asked = 0;

    private Due() {
    }

    static void is(String call, long got, long want) {
        asked++;
        if (got != want) {
            wrong++;
            System.out.println(call + " answered " + got + ", due is " + want);
        }
    }

    static void holds(String what, boolean so) {
        is(what, so ? 1 : 0, 1);
    }

    static int wrong() {
        return wrong;
    }

    static void end() {
        System.out.println(wrong == 0 ? asked + " answers are as due" : wrong + " of " + asked + " are not as due");
        if (wrong != 0) {
            System.exit(1);
        }
    }

    static void write(WinnowedGuilt x, String text) {
        x.wipe();
        for (int i = 0; i < text.length(); i++) {
            x.write(text.charAt(i));
        }
    }

    /** A new object with such a floor. */
    static WinnowedGuilt floor(String text) {
        WinnowedGuilt x = new WinnowedGuilt();
        write(x, text);
        if (x.floor() < 0) {
            holds("the floor " + text, false);
        }
        return x;
    }
}
