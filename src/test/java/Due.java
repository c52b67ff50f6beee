/** Counts and prints answers that are not as due; shared by the tests of the project. */
final class Due {
    /** As the document tells them, so that no test takes them from the class. */
    static final int UNKNOWN = -1, OUTSIDE = -2, STATE = -3, FULL = -4, NONE = -9;

    private static int wrong = 0;
    private static int asked = 0;
    private static String sentence = "";

    private Due() {
    }

    /** What is printed ahead of each wrong answer from here on. */
    static void by(String words) {
        sentence = words;
    }

    static void is(String call, long got, long want) {
        asked++;
        if (got != want) {
            wrong++;
            System.out.println(sentence + call + " answered " + got + ", due is " + want);
        }
    }

    static void holds(String what, boolean so) {
        is(what, so ? 1 : 0, 1);
    }

    static int wrong() {
        return wrong;
    }

    static int asked() {
        return asked;
    }

    static void end() {
        System.out.println(wrong == 0 ? asked + " answers are as due" : wrong + " of " + asked + " are not as due");
        if (wrong != 0) {
            System.exit(1);
        }
    }

    static void write(WinnowedGuilt x, String text) {
        x.wipe();
        for (int i = 0; i < text.length(); i++) {
            x.write(text.charAt(i));
        }
    }

    /** A new object with such a floor. */
    static WinnowedGuilt floor(String text) {
        WinnowedGuilt x = new WinnowedGuilt();
        write(x, text);
        if (x.floor() < 0) {
            holds("the floor " + text, false);
        }
        return x;
    }

    /** The same, with so many hours waited. */
    static WinnowedGuilt floor(String text, int hours) {
        WinnowedGuilt x = floor(text);
        for (int i = 0; i < hours; i++) {
            x.calm();
        }
        return x;
    }
}
