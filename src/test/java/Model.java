import java.math.BigInteger;
import java.util.ArrayDeque;
import java.util.ArrayList;
import java.util.Arrays;
import java.util.Deque;
import java.util.List;
import java.util.regex.Pattern;

/** The document once more, written another way (by definition, with the library, slowly), to be compared with. */
final class Model {
    private static final Pattern FORM = Pattern.compile("W(P[0-3]|H[0-9]|G[1-9][0-3][0-3][0-3])*");
    private static final int UNKNOWN = -1, OUTSIDE = -2, STATE = -3, FULL = -4, NONE = -9;

    private record Grain(int weight, int kind, int owner, int start) {
    }

    /** A moment: where grains lie, who holds the fan (null: nobody), the clock. */
    private record Moment(List<Integer> lies, Integer holder, int clock) {
    }

    private record Sight(int kind, int lift, int flew) {
    }

    private String text = "";
    private List<Integer> people = List.of();
    private List<Integer> hours = List.of();
    private List<Grain> grains = List.of();
    private Moment now = new Moment(List.of(), null, 0);
    private final Deque<Moment> past = new ArrayDeque<>();
    private final Moment[] kept = new Moment[2];
    private final List<Sight> seen = new ArrayList<>();
    private long seed = 0;

    // ---- the text

    private static boolean isFloor(String text) {
        if (!FORM.matcher(text).matches()) {
            return false;
        }
        int people = 0;
        int hours = 0;
        int grains = 0;
        for (int i = 1; i < text.length();) {
            switch (text.charAt(i)) {
                case 'P' -> {
                    people++;
                    i += 2;
                }
                case 'H' -> {
                    hours++;
                    i += 2;
                }
                default -> {
                    grains++;
                    if (text.charAt(i + 3) - '0' >= people || text.charAt(i + 4) - '0' >= people) {
                        return false;
                    }
                    i += 5;
                }
            }
        }
        return people <= 4 && hours <= 6 && grains <= 7;
    }

    /** Whether something can come behind it so that it is a floor. */
    private static boolean canBecomeFloor(String start) {
        for (String end : new String[] {"", "W", "0", "00", "000", "1000"}) {
            if (isFloor(start + end)) {
                return true;
            }
        }
        return false;
    }

    long write(int letter) {
        if (letter < 0 || letter > 255) {
            return OUTSIDE;
        }
        if (text.length() == 56) {
            return FULL;
        }
        text += (char) letter;
        return text.length();
    }

    long wipe() {
        int length = text.length();
        text = "";
        return length;
    }

    long fault() {
        if (isFloor(text)) {
            return NONE;
        }
        for (int end = 1; end <= text.length(); end++) {
            if (!canBecomeFloor(text.substring(0, end))) {
                return end - 1;
            }
        }
        return text.length();
    }

    long floor() {
        if (!isFloor(text)) {
            return STATE;
        }
        people = new ArrayList<>();
        hours = new ArrayList<>();
        grains = new ArrayList<>();
        List<Integer> lies = new ArrayList<>();
        for (String part : text.substring(1).split("(?=[PHG])")) {
            if (part.startsWith("P")) {
                people.add(part.charAt(1) - '0');
            } else if (part.startsWith("H")) {
                hours.add(part.charAt(1) - '0');
            } else if (part.startsWith("G")) {
                grains.add(new Grain(part.charAt(1) - '0', part.charAt(2) - '0', part.charAt(3) - '0',
                        part.charAt(4) - '0'));
                lies.add(part.charAt(4) - '0');
            }
        }
        now = new Moment(lies, null, 0);
        past.clear();
        Arrays.fill(kept, null);
        return people.size() * 100 + hours.size() * 10 + grains.size();
    }

    // ---- what the wind does

    private int wind(Moment m) {
        return hours.isEmpty() ? 0 : hours.get(m.clock % hours.size());
    }

    private int lift(Moment m, int place) {
        return wind(m) + (m.holder != null && m.holder == place ? 2 : 0) + (people.get(place) == 1 ? 1 : 0);
    }

    private static int liftOf(int kind, int lift) {
        return switch (kind) {
            case 1 -> lift + 2;
            case 3 -> lift >> 1;
            default -> lift;
        };
    }

    /** Counts the places on: the first by as much lift as weight, one more by each 3 beyond. */
    private static int places(int kind, int weight, int lift) {
        int own = liftOf(kind, lift);
        if (kind == 2 || own < weight) {
            return 0;
        }
        int places = kind == 1 ? 1 : 0;
        for (int need = weight; need <= own; need += 3) {
            places++;
        }
        return places;
    }

    private int flies(Moment m, int grain, int more) {
        int place = m.lies.get(grain);
        if (place >= 8) {
            return 0;
        }
        Grain g = grains.get(grain);
        if (g.owner == place && people.get(place) == 3) {
            return 0;
        }
        return places(g.kind, g.weight, lift(m, place) + more);
    }

    private int lands(Moment m, int grain, int more) {
        int place = m.lies.get(grain);
        int flew = flies(m, grain, more);
        if (flew > 0) {
            return place + flew < people.size() ? place + flew : 8;
        }
        return place < 8 && grains.get(grain).kind == 1 && people.get(place) == 2 ? 9 : place;
    }

    private Moment tossed(Moment m, int place, int more) {
        List<Integer> lies = new ArrayList<>();
        for (int grain = 0; grain < grains.size(); grain++) {
            lies.add(m.lies.get(grain) == place ? lands(m, grain, more) : m.lies.get(grain));
        }
        return new Moment(lies, m.holder, m.clock + 1);
    }

    private static Moment waited(Moment m) {
        return new Moment(m.lies, m.holder, m.clock + 1);
    }

    private static Moment held(Moment m, int person) {
        return new Moment(m.lies, person, m.clock);
    }

    private Moment picked(Moment m, int grain) {
        List<Integer> lies = new ArrayList<>(m.lies);
        lies.set(grain, grains.get(grain).owner);
        return new Moment(lies, m.holder, m.clock);
    }

    private boolean right(Moment m, int grain) {
        return m.lies.get(grain) == grains.get(grain).owner;
    }

    private int rights(Moment m) {
        int n = 0;
        for (int grain = 0; grain < grains.size(); grain++) {
            n += right(m, grain) ? 1 : 0;
        }
        return n;
    }

    private boolean clean(Moment m, int person) {
        for (int grain = 0; grain < grains.size(); grain++) {
            if (m.lies.get(grain) == person && grains.get(grain).owner != person) {
                return false;
            }
        }
        return true;
    }

    private int guilt(Moment m, int person) {
        int sum = 0;
        for (int grain = 0; grain < grains.size(); grain++) {
            sum += m.lies.get(grain) == person && grains.get(grain).kind != 1 ? grains.get(grain).weight : 0;
        }
        return sum;
    }

    private int bits(Moment m, int place) {
        int bits = 0;
        for (int grain = grains.size() - 1; grain >= 0; grain--) {
            bits = 2 * bits + (m.lies.get(grain) == place ? 1 : 0);
        }
        return bits;
    }

    private boolean noPerson(int person) {
        return person < 0 || person >= people.size();
    }

    private boolean noGrain(int grain) {
        return grain < 0 || grain >= grains.size();
    }

    // ---- asked of people and grains

    long person(int person, int what) {
        if (noPerson(person)) {
            return UNKNOWN;
        }
        int own = 0;
        for (int grain = 0; grain < grains.size(); grain++) {
            own += right(now, grain) && grains.get(grain).owner == person ? grains.get(grain).weight : 0;
        }
        return switch (what) {
            case 0 -> people.get(person);
            case 1 -> lift(now, person);
            case 2 -> guilt(now, person);
            case 3 -> bits(now, person);
            case 4 -> clean(now, person) ? 1 : 0;
            case 5 -> own;
            default -> OUTSIDE;
        };
    }

    long grain(int grain, int what) {
        if (noGrain(grain)) {
            return UNKNOWN;
        }
        Grain g = grains.get(grain);
        int place = now.lies.get(grain);
        return switch (what) {
            case 0 -> g.weight;
            case 1 -> g.kind;
            case 2 -> g.owner;
            case 3 -> place;
            case 4 -> place >= 8 ? 0 : liftOf(g.kind, lift(now, place));
            case 5 -> lands(now, grain, 0);
            case 6 -> place == g.owner ? 1 : 0;
            default -> OUTSIDE;
        };
    }

    // ---- acts

    private void act(Moment then) {
        past.addLast(now);
        if (past.size() > 14) {
            past.removeFirst();
        }
        now = then;
    }

    long toss(int place) {
        if (noPerson(place)) {
            return UNKNOWN;
        }
        int flew = 0;
        for (int grain = 0; grain < grains.size(); grain++) {
            flew += now.lies.get(grain) == place && flies(now, grain, 0) > 0 ? 1 : 0;
        }
        act(tossed(now, place, 0));
        return flew;
    }

    long calm() {
        act(waited(now));
        return wind(now);
    }

    private boolean cannotPick(Moment m, int grain) {
        return grains.get(grain).kind != 3 || right(m, grain);
    }

    long pick(int grain) {
        if (noGrain(grain)) {
            return UNKNOWN;
        }
        if (cannotPick(now, grain)) {
            return STATE;
        }
        int lay = now.lies.get(grain);
        act(picked(now, grain));
        return lay;
    }

    private static boolean holds(Moment m, int person) {
        return m.holder != null && m.holder == person;
    }

    long fan(int person) {
        if (noPerson(person)) {
            return UNKNOWN;
        }
        if (holds(now, person)) {
            return STATE;
        }
        int was = now.holder == null ? NONE : now.holder;
        act(held(now, person));
        return was;
    }

    long undo() {
        if (past.isEmpty()) {
            return STATE;
        }
        now = past.removeLast();
        return past.size();
    }

    // ---- rows, votes

    /** A turn, or null if there is no such one. */
    private Moment turn(Moment m, int turn) {
        if (turn == 4) {
            return waited(m);
        }
        return noPerson(turn) ? null : tossed(m, turn, 0);
    }

    long best(int n, boolean row) {
        if (n < 1 || n > 4) {
            return OUTSIDE;
        }
        int most = -1;
        String first = "";
        int end = (int) Math.pow(10, n);
        for (int number = 0; number < end; number++) {
            String figures = String.format("%0" + n + "d", number);
            Moment m = now;
            for (int i = 0; i < n && m != null; i++) {
                m = turn(m, figures.charAt(i) - '0');
            }
            if (m != null && rights(m) > most) {
                most = rights(m);
                first = "1" + figures;
            }
        }
        return row ? Integer.parseInt(first) : most;
    }

    long fewest(int person) {
        if (noPerson(person)) {
            return UNKNOWN;
        }
        List<Moment> edge = List.of(now);
        for (int n = 0; n <= 4; n++) {
            List<Moment> next = new ArrayList<>();
            for (Moment m : edge) {
                if (clean(m, person)) {
                    return n;
                }
                for (int turn = 0; turn <= 4; turn++) {
                    Moment then = turn(m, turn);
                    if (then != null) {
                        next.add(then);
                    }
                }
            }
            edge = next;
        }
        return NONE;
    }

    long when(int grain) {
        if (noGrain(grain)) {
            return UNKNOWN;
        }
        for (int n = 0; n <= 20; n++) {
            if (flies(new Moment(now.lies, now.holder, now.clock + n), grain, 0) > 0) {
                return n;
            }
        }
        return NONE;
    }

    private int[] tally() {
        int[] tally = new int[people.size()];
        for (int voter = 0; voter < people.size(); voter++) {
            int[] guilts = new int[people.size()];
            for (int holder = 0; holder < people.size(); holder++) {
                Moment m = held(now, holder);
                for (int place = 0; place < people.size(); place++) {
                    m = tossed(m, place, 0);
                }
                guilts[holder] = guilt(m, voter);
            }
            int least = Arrays.stream(guilts).min().orElse(0);
            int choice = 0;
            while (guilts[choice] != least) {
                choice++;
            }
            tally[choice]++;
        }
        return tally;
    }

    long votes(int person) {
        return noPerson(person) ? UNKNOWN : tally()[person];
    }

    long chosen() {
        int[] tally = tally();
        int most = Arrays.stream(tally).max().orElse(0);
        for (int person = 0; person < tally.length; person++) {
            if (tally[person] == most) {
                return person;
            }
        }
        return NONE;
    }

    long judge(int n, int row) {
        if (n < 1 || n > 4 || row < 0 || Integer.toString(row).length() > 2 * n) {
            return OUTSIDE;
        }
        String figures = String.format("%0" + 2 * n + "d", row);
        Moment m = now;
        for (int i = 0; i < n; i++) {
            int which = figures.charAt(2 * i + 1) - '0';
            switch (figures.charAt(2 * i)) {
                case '0' -> m = turn(m, which);
                case '1' -> m = noGrain(which) || cannotPick(m, which) ? null : picked(m, which);
                case '2' -> m = noPerson(which) || holds(m, which) ? null : held(m, which);
                case '3' -> m = noPerson(which) || !clean(m, which) ? null : m;
                default -> m = null;
            }
            if (m == null) {
                return i;
            }
        }
        return NONE;
    }

    // ---- seen

    long see(int kind, int lift, int flew) {
        if (kind < 0 || kind > 3 || lift < 0 || lift > 12 || flew < 0 || flew > 5) {
            return OUTSIDE;
        }
        if (seen.size() == 6) {
            return FULL;
        }
        seen.add(new Sight(kind, lift, flew));
        return seen.size();
    }

    long unsee() {
        int size = seen.size();
        seen.clear();
        return size;
    }

    long weights(int kind) {
        if (kind < 0 || kind > 3) {
            return OUTSIDE;
        }
        int bits = 1022;
        for (Sight s : seen) {
            for (int weight = 1; weight <= 9; weight++) {
                if (s.kind == kind && places(kind, weight, s.lift) != s.flew) {
                    bits &= ~(1 << weight);
                }
            }
        }
        return bits;
    }

    // ---- shares, rests, chances

    private static long told(BigInteger above, BigInteger below, boolean upper) {
        BigInteger common = above.gcd(below);
        return (upper ? above : below).divide(common).longValueExact();
    }

    private int rightsBehind(List<Integer> come) {
        Moment m = now;
        for (int place = 0; place < people.size(); place++) {
            if (come.contains(place)) {
                m = tossed(m, place, 0);
            }
        }
        return rights(m);
    }

    /** All orders of coming, one by one: gains and how many orders there are are added up. */
    private void orders(List<Integer> come, int person, long[] sums) {
        if (come.size() == people.size()) {
            int at = come.indexOf(person);
            sums[0] += rightsBehind(come.subList(0, at + 1)) - rightsBehind(come.subList(0, at));
            sums[1]++;
            return;
        }
        for (int next = 0; next < people.size(); next++) {
            if (!come.contains(next)) {
                List<Integer> more = new ArrayList<>(come);
                more.add(next);
                orders(more, person, sums);
            }
        }
    }

    long share(int person, boolean upper) {
        if (noPerson(person)) {
            return UNKNOWN;
        }
        long[] sums = new long[2];
        orders(List.of(), person, sums);
        return told(BigInteger.valueOf(sums[0]), BigInteger.valueOf(sums[1]), upper);
    }

    private int flyingGuilt(Moment m, int person) {
        return guilt(m, person) - guilt(tossed(m, person, 0), person);
    }

    long rests(int one, int other, int what) {
        if (noPerson(one) || noPerson(other)) {
            return UNKNOWN;
        }
        if (one == other || what < 0 || what > 1) {
            return OUTSIDE;
        }
        int[] who = {one, other};
        // has[k][a][b]: what the k-th has, when the one does a and the other b
        int[][][] has = new int[2][2][2];
        for (int k = 0; k < 2; k++) {
            for (int a = 0; a < 2; a++) {
                for (int b = 0; b < 2; b++) {
                    boolean grabs = (k == 0 ? a : b) == 1;
                    has[k][a][b] = !grabs ? flyingGuilt(now, who[k])
                            : a + b == 2 ? -2 : flyingGuilt(held(now, who[k]), who[k]);
                }
            }
        }
        List<Integer> pairs = new ArrayList<>();
        for (int a = 0; a < 2; a++) {
            for (int b = 0; b < 2; b++) {
                if (has[0][1 - a][b] <= has[0][a][b] && has[1][a][1 - b] <= has[1][a][b]) {
                    pairs.add(10 * a + b);
                }
            }
        }
        return what == 0 ? pairs.size() : pairs.isEmpty() ? NONE : pairs.get(0);
    }

    long gust(int grain, int n, int x, boolean upper) {
        if (noGrain(grain)) {
            return UNKNOWN;
        }
        if (n < 1 || n > 5 || x < 0 || x > 10) {
            return OUTSIDE;
        }
        BigInteger above = BigInteger.ZERO;
        for (int gusts = 0; gusts < 1 << n; gusts++) {
            Moment m = now;
            BigInteger likely = BigInteger.ONE;
            for (int i = 0; i < n; i++) {
                boolean gust = (gusts >> i & 1) == 1;
                likely = likely.multiply(BigInteger.valueOf(gust ? x : 10 - x));
                m = m.lies.get(grain) < 8 ? tossed(m, m.lies.get(grain), gust ? 3 : 0) : m;
            }
            above = m.lies.get(grain) == 8 ? above.add(likely) : above;
        }
        return told(above, BigInteger.TEN.pow(n), upper);
    }

    long seed(long v) {
        long was = seed;
        seed = v;
        return was;
    }

    long years(int m) {
        if (m < 1 || m > 30) {
            return OUTSIDE;
        }
        Moment then = now;
        BigInteger wrap = BigInteger.ONE.shiftLeft(64);
        for (int i = 0; i < m; i++) {
            BigInteger x = BigInteger.valueOf(seed).multiply(new BigInteger("6364136223846793005"))
                    .add(new BigInteger("1442695040888963407")).mod(wrap);
            seed = x.longValue();
            int lot = x.shiftRight(33).mod(BigInteger.valueOf(9)).intValue();
            if (lot == 8) {
                then = waited(then);
            } else if (!noPerson(lot % 4)) {
                then = lot < 4 ? tossed(then, lot, 0) : held(then, lot - 4);
            }
        }
        int sum = 0;
        for (int grain = 0; grain < grains.size(); grain++) {
            sum += then.lies.get(grain) == 8 ? grains.get(grain).weight : 0;
        }
        return sum;
    }

    // ---- slots

    long keep(int slot) {
        if (slot < 0 || slot > 1) {
            return UNKNOWN;
        }
        kept[slot] = now;
        return now.clock;
    }

    long again(int slot) {
        if (slot < 0 || slot > 1) {
            return UNKNOWN;
        }
        if (kept[slot] == null) {
            return STATE;
        }
        now = kept[slot];
        past.clear();
        return now.clock;
    }

    long count(int what) {
        int rightBits = 0;
        for (int grain = 0; grain < grains.size(); grain++) {
            rightBits += right(now, grain) ? 1 << grain : 0;
        }
        int cleanBits = 0;
        for (int person = 0; person < people.size(); person++) {
            cleanBits += clean(now, person) ? 1 << person : 0;
        }
        return switch (what) {
            case 0 -> text.length();
            case 1 -> people.size();
            case 2 -> hours.size();
            case 3 -> grains.size();
            case 4 -> now.clock;
            case 5 -> wind(now);
            case 6 -> now.holder == null ? NONE : now.holder;
            case 7 -> rightBits;
            case 8 -> bits(now, 8);
            case 9 -> bits(now, 9);
            case 10 -> cleanBits;
            case 11 -> past.size();
            case 12 -> seen.size();
            default -> OUTSIDE;
        };
    }
}
