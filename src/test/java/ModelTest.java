import java.util.Random;

/** Runs of calls by chance (always the same ones), each answer compared with that of the model. */
public final class ModelTest {
    private static final int RUNS = 400, CALLS = 512;
    private static final int[] EDGES = {Integer.MIN_VALUE, Integer.MAX_VALUE, -10, -9, -1, 255, 256, 100, 1 << 16};

    private final Random random;
    private final WinnowedGuilt x = new WinnowedGuilt();
    private final Model model = new Model();
    private final String run;
    private int left = CALLS;

    private ModelTest(int number) {
        random = new Random(number);
        run = "run " + number + ": ";
    }

    private void same(String call, long got, long want) {
        left--;
        Due.is(run + call, got, want);
    }

    /** Mostly 0 to most, now and then one that is told wrongly. */
    private int number(int most) {
        int lot = random.nextInt(40);
        if (lot == 0) {
            return EDGES[random.nextInt(EDGES.length)];
        }
        return lot == 1 ? most + 1 : random.nextInt(most + 1);
    }

    private void writeText() {
        same("wipe()", x.wipe(), model.wipe());
        String text = anyText();
        if (random.nextInt(3) == 0) {
            text = spoiled(text);
        }
        for (int i = 0; i < text.length() && left > 20; i++) {
            int letter = text.charAt(i);
            same("write(" + letter + ")", x.write(letter), model.write(letter));
            if (random.nextInt(4) == 0) {
                same("fault()", x.fault(), model.fault());
            }
        }
        same("fault()", x.fault(), model.fault());
        same("floor()", x.floor(), model.floor());
    }

    private String anyText() {
        StringBuilder text = new StringBuilder("W");
        int people = 0;
        int most = 1 + random.nextInt(4);
        for (int i = 0; i < most; i++) {
            text.append('P').append(random.nextInt(4));
            people++;
        }
        int hours = random.nextInt(7);
        for (int i = 0; i < hours; i++) {
            text.append('H').append(random.nextInt(10));
        }
        int grains = random.nextInt(8);
        for (int i = 0; i < grains; i++) {
            text.append('G').append(1 + random.nextInt(random.nextBoolean() ? 4 : 9)).append(random.nextInt(4))
                    .append(random.nextInt(people)).append(random.nextInt(people));
        }
        return text.toString();
    }

    private String spoiled(String text) {
        StringBuilder spoiled = new StringBuilder(text);
        String signs = "WPHG0123456789x";
        int at = random.nextInt(text.length());
        switch (random.nextInt(4)) {
            case 0 -> spoiled.setCharAt(at, signs.charAt(random.nextInt(signs.length())));
            case 1 -> spoiled.insert(at, signs.charAt(random.nextInt(signs.length())));
            case 2 -> spoiled.deleteCharAt(at);
            default -> spoiled.setLength(at);
        }
        return spoiled.toString();
    }

    private int judgeRow(int n) {
        int row = 0;
        for (int i = 0; i < n && i < 4; i++) {
            int what = random.nextInt(20) == 0 ? random.nextInt(10) : random.nextInt(4);
            row = row * 100 + 10 * what + (random.nextInt(20) == 0 ? random.nextInt(10) : random.nextInt(5));
        }
        return random.nextInt(30) == 0 ? number(100000000) : row;
    }

    private void act() {
        int a = number(3);
        switch (random.nextInt(9)) {
            case 0, 1, 2, 3 -> same("toss(" + a + ")", x.toss(a), model.toss(a));
            case 4 -> same("calm()", x.calm(), model.calm());
            case 5 -> same("fan(" + a + ")", x.fan(a), model.fan(a));
            case 6 -> {
                int grain = number(6);
                same("pick(" + grain + ")", x.pick(grain), model.pick(grain));
            }
            case 7 -> same("undo()", x.undo(), model.undo());
            default -> {
                int slot = number(1);
                if (random.nextBoolean()) {
                    same("keep(" + slot + ")", x.keep(slot), model.keep(slot));
                } else {
                    same("again(" + slot + ")", x.again(slot), model.again(slot));
                }
            }
        }
    }

    private void askPeople() {
        int a = number(3);
        int b = number(3);
        boolean flag = random.nextBoolean();
        switch (random.nextInt(8)) {
            case 0 -> {
                int what = number(5);
                same("person(" + a + ", " + what + ")", x.person(a, what), model.person(a, what));
            }
            case 1 -> same("fewest(" + a + ")", x.fewest(a), model.fewest(a));
            case 2 -> same("votes(" + a + ")", x.votes(a), model.votes(a));
            case 3 -> same("chosen()", x.chosen(), model.chosen());
            case 4 -> same("share(" + a + ", " + flag + ")", x.share(a, flag), model.share(a, flag));
            case 5 -> {
                int what = number(1);
                same("rests(" + a + ", " + b + ", " + what + ")", x.rests(a, b, what), model.rests(a, b, what));
            }
            case 6 -> {
                // The model tries each number of n figures: the longest rows are left to a few runs.
                int n = random.nextInt(12) == 0 ? 4 : number(3);
                same("best(" + n + ", " + flag + ")", x.best(n, flag), model.best(n, flag));
            }
            default -> {
                int n = random.nextInt(12) == 0 ? number(4) : 1 + random.nextInt(4);
                int row = judgeRow(n);
                same("judge(" + n + ", " + row + ")", x.judge(n, row), model.judge(n, row));
            }
        }
    }

    private void askGrains() {
        int grain = number(6);
        switch (random.nextInt(4)) {
            case 0 -> {
                int what = number(6);
                same("grain(" + grain + ", " + what + ")", x.grain(grain, what), model.grain(grain, what));
            }
            case 1 -> same("when(" + grain + ")", x.when(grain), model.when(grain));
            case 2 -> {
                int n = number(5);
                int tenths = number(10);
                boolean upper = random.nextBoolean();
                same("gust(" + grain + ", " + n + ", " + tenths + ", " + upper + ")",
                        x.gust(grain, n, tenths, upper), model.gust(grain, n, tenths, upper));
            }
            default -> {
                int what = number(12);
                same("count(" + what + ")", x.count(what), model.count(what));
            }
        }
    }

    private void askChances() {
        switch (random.nextInt(6)) {
            case 0 -> {
                int kind = number(3);
                int lift = number(12);
                int flew = number(5);
                same("see(" + kind + ", " + lift + ", " + flew + ")", x.see(kind, lift, flew),
                        model.see(kind, lift, flew));
            }
            case 1 -> {
                if (random.nextInt(4) == 0) {
                    same("unsee()", x.unsee(), model.unsee());
                }
            }
            case 2, 3 -> {
                int kind = number(3);
                same("weights(" + kind + ")", x.weights(kind), model.weights(kind));
            }
            case 4 -> {
                long v = random.nextLong();
                same("seed(" + v + ")", x.seed(v), model.seed(v));
            }
            default -> {
                int m = number(30);
                same("years(" + m + ")", x.years(m), model.years(m));
            }
        }
    }

    /** Everything that can be asked of the state without doing anything. */
    private void compareAll() {
        for (int what = 0; what <= 12; what++) {
            same("count(" + what + ")", x.count(what), model.count(what));
        }
        for (int grain = 0; grain < 7; grain++) {
            same("grain(" + grain + ", 3)", x.grain(grain, 3), model.grain(grain, 3));
        }
    }

    private void go() {
        if (random.nextInt(10) != 0) {
            writeText();
        }
        while (left > 25 && Due.wrong() < 20) {
            int lot = random.nextInt(100);
            if (lot == 0) {
                writeText();
            } else if (lot < 35) {
                act();
            } else if (lot < 65) {
                askPeople();
            } else if (lot < 90) {
                askGrains();
            } else {
                askChances();
            }
        }
        compareAll();
    }

    public static void main(String[] args) {
        for (int number = 1; number <= RUNS && Due.wrong() < 20; number++) {
            new ModelTest(number).go();
        }
        Due.end();
    }
}
