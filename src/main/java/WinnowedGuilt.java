/**
 * A corn plain where guilt is winnowed: a floor is told as a text, its grains are tossed in the wind,
 * and questions are answered about where they lie, or would lie. The document's promises stand in DOC.md.
 */
public final class WinnowedGuilt {
    public static final int UNKNOWN = -1, OUTSIDE = -2, STATE = -3, FULL = -4, NONE = -9;

    private static final int MOST_LETTERS = 56, MOST_PEOPLE = 4, MOST_HOURS = 6, MOST_GRAINS = 7;
    private static final int MOST_ACTS = 14, MOST_SEEN = 6, SLOTS = 2;
    private static final int MOST_TURNS = 4, MOST_WAITED = 20, MOST_TOSSES = 5, MOST_YEARS = 30;
    private static final int BOY = 1, SIEVER = 2, MILLER = 3;
    private static final int HUSK = 1, SEED = 2, TARE = 3;
    private static final int MOST_KIND = 3, MOST_WEIGHT = 9, MOST_LIFT = 12, MOST_FLEW = 5;
    private static final int GONE = 8, EATEN = 9;
    private static final int WAIT = 4;

    private final int[] text;
    private int letters;
    private Floor ground;
    private Floor draft;
    private long now;
    private final Acts acts;
    private final long[] kept;
    private final boolean[] isKept;
    private final Seen seen;
    private final Ballot ballot;
    private long chance;

    public WinnowedGuilt() {
        text = new int[MOST_LETTERS];
        ground = new Floor();
        draft = new Floor();
        now = Scene.NOTHING;
        acts = new Acts();
        kept = new long[SLOTS];
        isKept = new boolean[SLOTS];
        seen = new Seen();
        ballot = new Ballot();
    }

    // ---- the floor

    public int write(int letter) {
        if (letter < 0 || letter > 255) {
            return OUTSIDE;
        }
        if (letters < 0 || letters >= text.length) {
            return FULL;
        }
        text[letters] = letter;
        letters++;
        return letters;
    }

    public int wipe() {
        int were = letters;
        letters = 0;
        return were;
    }

    public int fault() {
        return draft.read(text, letters);
    }

    public int floor() {
        if (draft.read(text, letters) != NONE) {
            return STATE;
        }
        Floor old = ground;
        ground = draft;
        draft = old;
        now = ground.firstScene();
        acts.forgetAll();
        for (int slot = 0; slot < isKept.length; slot++) {
            isKept[slot] = false;
        }
        return 100 * ground.people + 10 * ground.hours + ground.grains;
    }

    public int person(int person, int what) {
        if (!ground.isPerson(person)) {
            return UNKNOWN;
        }
        switch (what) {
            case 0: return ground.personKind(person);
            case 1: return ground.liftAt(now, person);
            case 2: return ground.guiltOf(now, person);
            case 3: return ground.lyingBits(now, person);
            case 4: return ground.isClean(now, person) ? 1 : 0;
            case 5: return ground.ownWeight(now, person);
            default: return OUTSIDE;
        }
    }

    public int grain(int grain, int what) {
        if (!ground.isGrain(grain)) {
            return UNKNOWN;
        }
        int place = Scene.placeOf(now, grain);
        int lift = ground.liftAt(now, place);
        switch (what) {
            case 0: return ground.weightOf(grain);
            case 1: return ground.grainKind(grain);
            case 2: return ground.ownerOf(grain);
            case 3: return place;
            case 4: return ground.isPerson(place) ? Floor.ownLift(ground.grainKind(grain), lift) : 0;
            case 5: return ground.landing(grain, place, lift);
            case 6: return ground.isRight(now, grain) ? 1 : 0;
            default: return OUTSIDE;
        }
    }

    // ---- acts

    public int toss(int place) {
        if (!ground.isPerson(place)) {
            return UNKNOWN;
        }
        int flew = Integer.bitCount(ground.flyingBits(now, place));
        actTo(ground.tossed(now, place));
        return flew;
    }

    public int calm() {
        actTo(Scene.later(now));
        return ground.windAt(now);
    }

    public int pick(int grain) {
        if (!ground.isGrain(grain)) {
            return UNKNOWN;
        }
        if (!ground.canPick(now, grain)) {
            return STATE;
        }
        int lay = Scene.placeOf(now, grain);
        actTo(ground.picked(now, grain));
        return lay;
    }

    public int fan(int person) {
        if (!ground.isPerson(person)) {
            return UNKNOWN;
        }
        int held = Scene.holderOf(now);
        if (held == person) {
            return STATE;
        }
        actTo(Scene.withHolder(now, person));
        return held;
    }

    public int undo() {
        if (acts.size <= 0) {
            return STATE;
        }
        now = acts.takeLast(now);
        return acts.size;
    }

    private void actTo(long then) {
        acts.add(now);
        now = then;
    }

    // ---- rows, votes

    public int best(int n, boolean row) {
        if (n < 1 || n > MOST_TURNS) {
            return OUTSIDE;
        }
        int found = Turns.mostRight(ground, now, n, 1);
        return row ? found % Turns.ROW_SPAN : found / Turns.ROW_SPAN;
    }

    public int fewest(int person) {
        if (!ground.isPerson(person)) {
            return UNKNOWN;
        }
        for (int n = 0; n <= MOST_TURNS; n++) {
            if (Turns.canBeClean(ground, now, person, n)) {
                return n;
            }
        }
        return NONE;
    }

    public int when(int grain) {
        if (!ground.isGrain(grain)) {
            return UNKNOWN;
        }
        int place = Scene.placeOf(now, grain);
        long then = now;
        for (int hour = 0; hour <= MOST_WAITED; hour++) {
            if (ground.flight(grain, place, ground.liftAt(then, place)) > 0) {
                return hour;
            }
            then = Scene.later(then);
        }
        return NONE;
    }

    public int votes(int person) {
        if (!ground.isPerson(person)) {
            return UNKNOWN;
        }
        ballot.hold(ground, now);
        return ballot.votesFor(person);
    }

    public int chosen() {
        ballot.hold(ground, now);
        int first = NONE;
        int most = -1;
        for (int person = 0; person < ground.people; person++) {
            if (ballot.votesFor(person) > most) {
                most = ballot.votesFor(person);
                first = person;
            }
        }
        return first;
    }

    public int judge(int n, int row) {
        if (n < 1 || n > MOST_TURNS || row < 0 || row >= Doings.rowSpan(n)) {
            return OUTSIDE;
        }
        return Doings.firstWrong(ground, now, n, row);
    }

    // ---- seen

    public int see(int kind, int lift, int flew) {
        if (kind < 0 || kind > MOST_KIND || lift < 0 || lift > MOST_LIFT || flew < 0 || flew > MOST_FLEW) {
            return OUTSIDE;
        }
        if (seen.size >= MOST_SEEN) {
            return FULL;
        }
        seen.add(kind, lift, flew);
        return seen.size;
    }

    public int unsee() {
        int was = seen.size;
        seen.size = 0;
        return was;
    }

    public int weights(int kind) {
        if (kind < 0 || kind > MOST_KIND) {
            return OUTSIDE;
        }
        return seen.weightBits(kind);
    }

    // ---- shares, rests, chances

    public int share(int person, boolean upper) {
        if (!ground.isPerson(person)) {
            return UNKNOWN;
        }
        return Numbers.leastTerms(Shares.gainInAllOrders(ground, now, person), Numbers.factorial(ground.people), upper);
    }

    public int rests(int one, int other, int what) {
        if (!ground.isPerson(one) || !ground.isPerson(other)) {
            return UNKNOWN;
        }
        if (one == other || what < 0 || what > 1) {
            return OUTSIDE;
        }
        int pairs = 0;
        int first = NONE;
        for (int pair = 0; pair < 4; pair++) {
            int grabs = pair / 2;
            int otherGrabs = pair % 2;
            if (Grabs.isContent(ground, now, one, grabs, otherGrabs)
                    && Grabs.isContent(ground, now, other, otherGrabs, grabs)) {
                first = pairs == 0 ? 10 * grabs + otherGrabs : first;
                pairs++;
            }
        }
        return what == 0 ? pairs : first;
    }

    public int gust(int grain, int n, int x, boolean upper) {
        if (!ground.isGrain(grain)) {
            return UNKNOWN;
        }
        if (n < 1 || n > MOST_TOSSES || x < 0 || x > 10) {
            return OUTSIDE;
        }
        int all = 1;
        for (int i = 0; i < n; i++) {
            all *= 10;
        }
        return Numbers.leastTerms(Gusts.waysToBeGone(ground, now, grain, n, x), all, upper);
    }

    public long seed(long v) {
        long was = chance;
        chance = v;
        return was;
    }

    public int years(int m) {
        if (m < 1 || m > MOST_YEARS) {
            return OUTSIDE;
        }
        long then = now;
        for (int i = 0; i < m; i++) {
            chance = Gusts.nextChance(chance);
            then = Gusts.yearBehind(ground, then, (int) (chance >>> 33) % 9);
        }
        return ground.goneWeight(then);
    }

    // ---- slots

    public int keep(int slot) {
        if (slot < 0 || slot >= kept.length || slot >= isKept.length) {
            return UNKNOWN;
        }
        kept[slot] = now;
        isKept[slot] = true;
        return Scene.clockOf(now);
    }

    public int again(int slot) {
        if (slot < 0 || slot >= kept.length || slot >= isKept.length) {
            return UNKNOWN;
        }
        if (!isKept[slot]) {
            return STATE;
        }
        now = kept[slot];
        acts.forgetAll();
        return Scene.clockOf(now);
    }

    public int count(int what) {
        switch (what) {
            case 0: return letters;
            case 1: return ground.people;
            case 2: return ground.hours;
            case 3: return ground.grains;
            case 4: return Scene.clockOf(now);
            case 5: return ground.windAt(now);
            case 6: return Scene.holderOf(now);
            case 7: return ground.rightBits(now);
            case 8: return ground.lyingBits(now, GONE);
            case 9: return ground.lyingBits(now, EATEN);
            case 10: return ground.cleanBits(now);
            case 11: return acts.size;
            case 12: return seen.size;
            default: return OUTSIDE;
        }
    }

    /**
     * Where grains lie, who holds the fan, the clock, all in one long: so a turn that is only tried makes no object,
     * and what is kept can not change afterwards. From below: four bits a grain, four for the holder, the clock.
     */
    private static final class Scene {
        static final int HOLDER_AT = 28, CLOCK_AT = 32, NOBODY = 15;
        static final long NOTHING = 15L << HOLDER_AT;

        static int placeOf(long scene, int grain) {
            return (int) (scene >>> (4 * grain)) & 15;
        }

        static long withPlace(long scene, int grain, int place) {
            int at = 4 * grain;
            return (scene & ~(15L << at)) | ((long) place << at);
        }

        static int holderOf(long scene) {
            int holder = (int) (scene >>> HOLDER_AT) & 15;
            return holder == NOBODY ? NONE : holder;
        }

        static long withHolder(long scene, int person) {
            return (scene & ~(15L << HOLDER_AT)) | ((long) person << HOLDER_AT);
        }

        static int clockOf(long scene) {
            return (int) (scene >>> CLOCK_AT);
        }

        static long later(long scene) {
            return scene + (1L << CLOCK_AT);
        }
    }

    /** What a text tells of people, hours and grains, and what the wind does with them in a scene. */
    private static final class Floor {
        private final int[] personKinds = new int[MOST_PEOPLE];
        private final int[] winds = new int[MOST_HOURS];
        private final int[] grainWeights = new int[MOST_GRAINS];
        private final int[] grainKinds = new int[MOST_GRAINS];
        private final int[] owners = new int[MOST_GRAINS];
        private final int[] starts = new int[MOST_GRAINS];
        private int people;
        private int hours;
        private int grains;
        /** While it is read: the letter of the part that is being told, W between parts, 0 ahead of all. */
        private int part;
        private int figuresTold;

        /** Becomes what the letters tell, as far as they do; answers their fault. */
        int read(int[] letters, int length) {
            people = 0;
            hours = 0;
            grains = 0;
            part = 0;
            figuresTold = 0;
            for (int i = 0; i < length && i < letters.length; i++) {
                if (!takes(letters[i])) {
                    return i;
                }
            }
            return part == 'W' ? NONE : length;
        }

        private boolean takes(int letter) {
            int figure = letter - '0';
            switch (part) {
                case 'W': return begins(letter);
                case 'P': return tellsPerson(figure);
                case 'H': return tellsHour(figure);
                case 'G': return tellsGrain(figure);
                default:
                    part = 'W';
                    return letter == 'W';
            }
        }

        private boolean begins(int letter) {
            part = letter;
            figuresTold = 0;
            switch (letter) {
                case 'P': return people < MOST_PEOPLE;
                case 'H': return hours < MOST_HOURS;
                // A grain needs a person told ahead, so without one its first letter is the fault.
                case 'G': return grains < MOST_GRAINS && people > 0;
                default: return false;
            }
        }

        private boolean tellsPerson(int figure) {
            if (figure < 0 || figure > MOST_KIND || people < 0 || people >= personKinds.length) {
                return false;
            }
            personKinds[people] = figure;
            people++;
            part = 'W';
            return true;
        }

        private boolean tellsHour(int figure) {
            if (figure < 0 || figure > 9 || hours < 0 || hours >= winds.length) {
                return false;
            }
            winds[hours] = figure;
            hours++;
            part = 'W';
            return true;
        }

        private boolean tellsGrain(int figure) {
            figuresTold++;
            switch (figuresTold) {
                case 1: return figure >= 1 && figure <= MOST_WEIGHT && puts(grainWeights, figure);
                case 2: return figure >= 0 && figure <= MOST_KIND && puts(grainKinds, figure);
                case 3: return isPerson(figure) && puts(owners, figure);
                default:
                    if (!isPerson(figure) || !puts(starts, figure)) {
                        return false;
                    }
                    grains++;
                    part = 'W';
                    return true;
            }
        }

        private boolean puts(int[] row, int figure) {
            if (grains < 0 || grains >= row.length) {
                return false;
            }
            row[grains] = figure;
            return true;
        }

        long firstScene() {
            long scene = Scene.NOTHING;
            for (int grain = 0; grain < grains && grain < starts.length; grain++) {
                scene = Scene.withPlace(scene, grain, starts[grain]);
            }
            return scene;
        }

        boolean isPerson(int person) {
            return person >= 0 && person < people;
        }

        boolean isGrain(int grain) {
            return grain >= 0 && grain < grains;
        }

        int personKind(int person) {
            return person >= 0 && person < personKinds.length ? personKinds[person] : NONE;
        }

        int weightOf(int grain) {
            return grain >= 0 && grain < grainWeights.length ? grainWeights[grain] : 0;
        }

        int grainKind(int grain) {
            return grain >= 0 && grain < grainKinds.length ? grainKinds[grain] : NONE;
        }

        int ownerOf(int grain) {
            return grain >= 0 && grain < owners.length ? owners[grain] : NONE;
        }

        int windAt(long scene) {
            if (hours <= 0) {
                return 0;
            }
            int hour = Scene.clockOf(scene) % hours;
            return hour >= 0 && hour < winds.length ? winds[hour] : 0;
        }

        int liftAt(long scene, int place) {
            int lift = windAt(scene);
            if (Scene.holderOf(scene) == place) {
                lift += 2;
            }
            if (personKind(place) == BOY) {
                lift++;
            }
            return lift;
        }

        /** The lift of a grain of a kind, by the lift at its place. */
        static int ownLift(int kind, int lift) {
            if (kind == HUSK) {
                return lift + 2;
            }
            return kind == TARE ? lift / 2 : lift;
        }

        /** How many places a grain flies by its own lift, if no miller holds it; 0: it does not. */
        static int flown(int kind, int weight, int ownLift) {
            if (kind == SEED || ownLift < weight) {
                return 0;
            }
            return (ownLift - weight) / 3 + 1 + (kind == HUSK ? 1 : 0);
        }

        int flight(int grain, int place, int lift) {
            boolean heldByMiller = ownerOf(grain) == place && personKind(place) == MILLER;
            if (!isPerson(place) || heldByMiller) {
                return 0;
            }
            int kind = grainKind(grain);
            return flown(kind, weightOf(grain), ownLift(kind, lift));
        }

        /** Where a grain at a place lies, when that was tossed with such a lift there. */
        int landing(int grain, int place, int lift) {
            int flew = flight(grain, place, lift);
            if (flew > 0) {
                return isPerson(place + flew) ? place + flew : GONE;
            }
            boolean eaten = isPerson(place) && personKind(place) == SIEVER && grainKind(grain) == HUSK;
            return eaten ? EATEN : place;
        }

        long tossed(long scene, int place) {
            int lift = liftAt(scene, place);
            long then = Scene.later(scene);
            for (int grain = 0; grain < grains; grain++) {
                if (Scene.placeOf(scene, grain) == place) {
                    then = Scene.withPlace(then, grain, landing(grain, place, lift));
                }
            }
            return then;
        }

        int flyingBits(long scene, int place) {
            int lift = liftAt(scene, place);
            int bits = 0;
            for (int grain = 0; grain < grains; grain++) {
                if (Scene.placeOf(scene, grain) == place && flight(grain, place, lift) > 0) {
                    bits |= 1 << grain;
                }
            }
            return bits;
        }

        boolean isTurn(int turn) {
            return turn == WAIT || isPerson(turn);
        }

        long turned(long scene, int turn) {
            return turn == WAIT ? Scene.later(scene) : tossed(scene, turn);
        }

        boolean canPick(long scene, int grain) {
            return isGrain(grain) && grainKind(grain) == TARE && !isRight(scene, grain);
        }

        long picked(long scene, int grain) {
            return Scene.withPlace(scene, grain, ownerOf(grain));
        }

        boolean isRight(long scene, int grain) {
            return Scene.placeOf(scene, grain) == ownerOf(grain);
        }

        int rightBits(long scene) {
            int bits = 0;
            for (int grain = 0; grain < grains; grain++) {
                if (isRight(scene, grain)) {
                    bits |= 1 << grain;
                }
            }
            return bits;
        }

        /** The grains at a place, or those that are GONE or EATEN. */
        int lyingBits(long scene, int place) {
            int bits = 0;
            for (int grain = 0; grain < grains; grain++) {
                if (Scene.placeOf(scene, grain) == place) {
                    bits |= 1 << grain;
                }
            }
            return bits;
        }

        boolean isClean(long scene, int person) {
            return (lyingBits(scene, person) & ~rightBits(scene)) == 0;
        }

        int cleanBits(long scene) {
            int bits = 0;
            for (int person = 0; person < people; person++) {
                if (isClean(scene, person)) {
                    bits |= 1 << person;
                }
            }
            return bits;
        }

        int weightOfBits(int bits) {
            int sum = 0;
            for (int grain = 0; grain < grains; grain++) {
                if ((bits >> grain & 1) == 1) {
                    sum += weightOf(grain);
                }
            }
            return sum;
        }

        /** The weights of these grains as guilt has them: husks are set aside. */
        int guiltOfBits(int bits) {
            int counted = bits;
            for (int grain = 0; grain < grains; grain++) {
                if (grainKind(grain) == HUSK) {
                    counted &= ~(1 << grain);
                }
            }
            return weightOfBits(counted);
        }

        int guiltOf(long scene, int person) {
            return guiltOfBits(lyingBits(scene, person));
        }

        int ownWeight(long scene, int person) {
            return weightOfBits(lyingBits(scene, person) & rightBits(scene));
        }

        int goneWeight(long scene) {
            return weightOfBits(lyingBits(scene, GONE));
        }
    }

    /** The scenes as they were ahead of each of the last acts. */
    private static final class Acts {
        private final long[] scenes = new long[MOST_ACTS];
        private int size;

        void add(long scene) {
            if (size >= scenes.length) {
                forgetFirst();
            }
            if (size >= 0 && size < scenes.length) {
                scenes[size] = scene;
                size++;
            }
        }

        private void forgetFirst() {
            for (int i = 1; i < scenes.length; i++) {
                scenes[i - 1] = scenes[i];
            }
            size = scenes.length - 1;
        }

        long takeLast(long otherwise) {
            if (size <= 0 || size > scenes.length) {
                return otherwise;
            }
            size--;
            return scenes[size];
        }

        void forgetAll() {
            size = 0;
        }
    }

    /** Rows of turns that are tried and leave no trace. */
    private static final class Turns {
        /** Above every row of four turns behind a 1, so that a number can tell how many are right, and the row. */
        static final int ROW_SPAN = 100000;

        private static int mostRight(Floor floor, long scene, int left, int row) {
            if (left <= 0) {
                return Integer.bitCount(floor.rightBits(scene)) * ROW_SPAN + row;
            }
            int most = -1;
            for (int turn = 0; turn <= WAIT; turn++) {
                if (floor.isTurn(turn)) {
                    int found = mostRight(floor, floor.turned(scene, turn), left - 1, 10 * row + turn);
                    // Rows come from the least on, so one with just as many right is never taken.
                    if (most < 0 || found / ROW_SPAN > most / ROW_SPAN) {
                        most = found;
                    }
                }
            }
            return most;
        }

        private static boolean canBeClean(Floor floor, long scene, int person, int left) {
            if (left <= 0) {
                return floor.isClean(scene, person);
            }
            for (int turn = 0; turn <= WAIT; turn++) {
                if (floor.isTurn(turn) && canBeClean(floor, floor.turned(scene, turn), person, left - 1)) {
                    return true;
                }
            }
            return false;
        }
    }

    /** Told doings: two figures each, what is done, and by which turn, grain or person. */
    private static final class Doings {
        static final int TURN = 0, PICKED = 1, FAN = 2, CLEAN = 3;

        /** The least number that has more figures than n doings do. */
        static int rowSpan(int n) {
            int span = 1;
            for (int i = 0; i < n && i < MOST_TURNS; i++) {
                span *= 100;
            }
            return span;
        }

        static int firstWrong(Floor floor, long scene, int n, int row) {
            long then = scene;
            for (int i = 0; i < n; i++) {
                int doing = pairAt(row, n - 1 - i);
                if (!canBe(floor, then, doing / 10, doing % 10)) {
                    return i;
                }
                then = behind(floor, then, doing / 10, doing % 10);
            }
            return NONE;
        }

        /** Two figures of a number, with this many such pairs behind them. */
        private static int pairAt(int row, int pairsBehind) {
            int rest = row;
            for (int i = 0; i < pairsBehind; i++) {
                rest /= 100;
            }
            return rest % 100;
        }

        private static boolean canBe(Floor floor, long scene, int what, int which) {
            switch (what) {
                case TURN: return floor.isTurn(which);
                case PICKED: return floor.canPick(scene, which);
                case FAN: return floor.isPerson(which) && Scene.holderOf(scene) != which;
                case CLEAN: return floor.isPerson(which) && floor.isClean(scene, which);
                default: return false;
            }
        }

        private static long behind(Floor floor, long scene, int what, int which) {
            switch (what) {
                case TURN: return floor.turned(scene, which);
                case PICKED: return floor.picked(scene, which);
                case FAN: return Scene.withHolder(scene, which);
                default: return scene;
            }
        }
    }

    /** Votes for the holder of the fan. Its rows are used again by each ballot. */
    private static final class Ballot {
        private final int[] tally = new int[MOST_PEOPLE];
        private final long[] outcomes = new long[MOST_PEOPLE];

        void hold(Floor floor, long scene) {
            for (int holder = 0; holder < floor.people && holder < tally.length && holder < outcomes.length; holder++) {
                tally[holder] = 0;
                outcomes[holder] = allTossed(floor, Scene.withHolder(scene, holder));
            }
            for (int voter = 0; voter < floor.people; voter++) {
                int choice = choiceOf(floor, voter);
                if (choice >= 0 && choice < tally.length) {
                    tally[choice]++;
                }
            }
        }

        int votesFor(int person) {
            return person >= 0 && person < tally.length ? tally[person] : 0;
        }

        private static long allTossed(Floor floor, long scene) {
            long then = scene;
            for (int place = 0; place < floor.people; place++) {
                then = floor.tossed(then, place);
            }
            return then;
        }

        private int choiceOf(Floor floor, int voter) {
            int choice = NONE;
            int least = 0;
            for (int holder = 0; holder < floor.people && holder < outcomes.length; holder++) {
                int guilt = floor.guiltOf(outcomes[holder], voter);
                if (choice == NONE || guilt < least) {
                    choice = holder;
                    least = guilt;
                }
            }
            return choice;
        }
    }

    /** Flights that were seen, and what they tell of weights. */
    private static final class Seen {
        private final int[] kinds = new int[MOST_SEEN];
        private final int[] lifts = new int[MOST_SEEN];
        private final int[] flights = new int[MOST_SEEN];
        private int size;

        void add(int kind, int lift, int flew) {
            if (size >= 0 && size < kinds.length && size < lifts.length && size < flights.length) {
                kinds[size] = kind;
                lifts[size] = lift;
                flights[size] = flew;
                size++;
            }
        }

        int weightBits(int kind) {
            int bits = 0;
            for (int weight = 1; weight <= MOST_WEIGHT; weight++) {
                if (fits(kind, weight)) {
                    bits |= 1 << weight;
                }
            }
            return bits;
        }

        private boolean fits(int kind, int weight) {
            for (int i = 0; i < size && i < kinds.length && i < lifts.length && i < flights.length; i++) {
                if (kinds[i] == kind && Floor.flown(kind, weight, Floor.ownLift(kind, lifts[i])) != flights[i]) {
                    return false;
                }
            }
            return true;
        }
    }

    /** What each person's coming adds to what lies right. */
    private static final class Shares {
        /** The gains of a person in all orders of coming, together: its share is this by the number of orders. */
        static int gainInAllOrders(Floor floor, long scene, int person) {
            int own = 1 << person;
            int sum = 0;
            for (int others = 0; others < 1 << floor.people; others++) {
                if ((others & own) == 0) {
                    int ahead = Integer.bitCount(others);
                    int orders = Numbers.factorial(ahead) * Numbers.factorial(floor.people - 1 - ahead);
                    sum += orders * (rightBehind(floor, scene, others | own) - rightBehind(floor, scene, others));
                }
            }
            return sum;
        }

        private static int rightBehind(Floor floor, long scene, int come) {
            long then = scene;
            for (int place = 0; place < floor.people; place++) {
                if ((come >> place & 1) == 1) {
                    then = floor.tossed(then, place);
                }
            }
            return Integer.bitCount(floor.rightBits(then));
        }
    }

    /** Two who may grab the fan. */
    private static final class Grabs {
        static boolean isContent(Floor floor, long scene, int person, int grabs, int otherGrabs) {
            return gain(floor, scene, person, grabs, otherGrabs) >= gain(floor, scene, person, 1 - grabs, otherGrabs);
        }

        private static int gain(Floor floor, long scene, int person, int grabs, int otherGrabs) {
            if (grabs == 1 && otherGrabs == 1) {
                return -2;
            }
            long then = grabs == 1 ? Scene.withHolder(scene, person) : scene;
            return floor.guiltOfBits(floor.flyingBits(then, person));
        }
    }

    /** What comes by chance: gusts, and years. */
    private static final class Gusts {
        static final int MORE_WIND = 3;

        /** Of 10 to the power of how many tosses are left, so many ways (x of 10 have a gust) by which it is GONE. */
        private static int waysToBeGone(Floor floor, long scene, int grain, int left, int x) {
            if (left <= 0) {
                return Scene.placeOf(scene, grain) == GONE ? 1 : 0;
            }
            return x * waysToBeGone(floor, moved(floor, scene, grain, MORE_WIND), grain, left - 1, x)
                    + (10 - x) * waysToBeGone(floor, moved(floor, scene, grain, 0), grain, left - 1, x);
        }

        /** Its place is tossed; no other grain has a part in where this one flies, so they are left as they are. */
        private static long moved(Floor floor, long scene, int grain, int moreWind) {
            int place = Scene.placeOf(scene, grain);
            int lift = floor.liftAt(scene, place) + moreWind;
            return Scene.later(Scene.withPlace(scene, grain, floor.landing(grain, place, lift)));
        }

        static long nextChance(long chance) {
            return chance * 6364136223846793005L + 1442695040888963407L;
        }

        static long yearBehind(Floor floor, long scene, int lot) {
            if (lot == 8) {
                return Scene.later(scene);
            }
            if (lot < 4) {
                return floor.isPerson(lot) ? floor.tossed(scene, lot) : scene;
            }
            return floor.isPerson(lot - 4) ? Scene.withHolder(scene, lot - 4) : scene;
        }
    }

    private static final class Numbers {
        static int factorial(int n) {
            int product = 1;
            for (int i = 2; i <= n && i <= MOST_PEOPLE; i++) {
                product *= i;
            }
            return product;
        }

        static int leastTerms(int above, int below, boolean upper) {
            int divisor = Math.max(1, commonDivisor(Math.abs(above), Math.abs(below)));
            return (upper ? above : below) / divisor;
        }

        private static int commonDivisor(int one, int other) {
            int larger = one;
            int smaller = other;
            // Euclid's steps on ints are fewer than fifty.
            for (int i = 0; i < 64 && smaller != 0; i++) {
                int rest = larger % smaller;
                larger = smaller;
                smaller = rest;
            }
            return larger;
        }
    }
}
