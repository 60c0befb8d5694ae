import java.util.Arrays;
import java.util.NoSuchElementException;

/**
 * A mill turned by applause, told as a text: acts, guests, grains, shows, coughs and laws; minutes
 * that go by, and questions about what comes.
 *
 * <p>Every row is made once, in a constructor, and used again: no call makes an object.
 */
public final class ClapMill {
    public static final int NONE = -1;

    private static final int NOT_SO = -2;
    private static final int NO_NUMBER = Integer.MIN_VALUE;
    private static final long ERROR = Long.MIN_VALUE;

    private static final int MOST_BYTES = 700;
    private static final int MOST_GUESTS = 6;
    private static final int MOST_KNOTS = 64;
    private static final int MOST_SPEED = 99;
    private static final int MOST_AHEAD = 200;
    private static final int MOST_FLOUR_MINUTES = 199;
    private static final int MOST_SACKS = 999;
    private static final int LAST_MINUTE = 9000;
    private static final int MOST_BILLED = 4;
    private static final int MOODS = 10;
    private static final int SEEN_MINUTES = 60;
    private static final int MOST_CLAP = 9;
    private static final int CLAPS = 2 * MOST_CLAP + 1;
    private static final int NOT_ASKED = 100;

    private static final int CLAP = 0;
    private static final int TURN = 1;
    private static final int GRIT = 2;

    private final byte[] tape = new byte[MOST_BYTES];
    private int fed = 0;
    private int faultKind = 0;
    private int faultPlace = NONE;
    private Script told = new Script();
    private Script spare = new Script();
    private final Reader reader = new Reader(spare);
    private final Mill mill = new Mill(told);
    private final Hall now = new Hall();
    private final Hall trial = new Hall();
    private final Hall image = new Hall();
    private boolean hasImage = false;
    private final Steps steps = new Steps();
    private final Notes notes = new Notes();
    private final int[] futures = new int[MOODS * SEEN_MINUTES];
    private int futuresAct = NONE;
    private final Order order = new Order();
    private final int[] clapRow = new int[MOST_GUESTS * CLAPS];

    public ClapMill() {
    }

    // ---- the text

    public int feed(int a, int b, int c, int d, int e) {
        if (fed + 20 > MOST_BYTES) {
            return NONE;
        }
        putBytes(a);
        putBytes(b);
        putBytes(c);
        putBytes(d);
        putBytes(e);
        return fed;
    }

    private void putBytes(int number) {
        for (int shift = 24; shift >= 0 && fed < MOST_BYTES; shift -= 8) {
            tape[fed] = (byte) (number >> shift);
            fed++;
        }
    }

    public int text(int n) {
        if (n < 0 || n > fed) {
            return NOT_SO;
        }
        fed = 0;
        reader.readAll(tape, n, spare);
        faultKind = reader.faultKind;
        faultPlace = reader.faultPlace;
        if (faultKind != 0) {
            return NONE;
        }
        Script old = told;
        told = spare;
        spare = old;
        beginAnew();
        return told.lines;
    }

    private void beginAnew() {
        now.begin(told.seed);
        hasImage = false;
        steps.clear();
        notes.clear();
        futuresAct = NONE;
    }

    public int fault(int what) {
        if (what == 0) {
            return faultKind;
        }
        return what == 1 ? faultPlace : NONE;
    }

    public int named(int what, int letters) {
        switch (what) {
            case 0:
                return told.acts.find(letters);
            case 1:
                return told.guests.find(letters);
            case 2:
                return told.grains.find(letters);
            default:
                return NONE;
        }
    }

    // ---- what is now

    public int guest(int guest, int what) throws IndexOutOfBoundsException, NoSuchElementException {
        if (!told.guests.has(guest)) {
            throw new IndexOutOfBoundsException("no such guest");
        }
        switch (what) {
            case 0:
                return told.taste(guest);
            case 1:
                return told.hunger(guest);
            case 2:
                return now.seatOf(guest);
            case 3:
                return now.tired[guest];
            case 4:
                return now.clapped[guest];
            default:
                throw new NoSuchElementException("no such what");
        }
    }

    public int act(int act, int what) {
        if (!told.acts.has(act)) {
            return NONE;
        }
        switch (what) {
            case 0:
                return told.mood(act);
            case 1:
                return told.minutesOf(act);
            case 2:
                return now.on == act ? now.left : 0;
            default:
                return NONE;
        }
    }

    public int grain(int grain, int what) {
        if (!told.grains.has(grain)) {
            return NONE;
        }
        switch (what) {
            case 0:
                return told.low(grain);
            case 1:
                return told.high(grain);
            case 2:
                return told.sacks(grain) - now.ground[grain];
            case 3:
                return now.ground[grain];
            default:
                return NONE;
        }
    }

    public long law(int what, int guest) {
        mill.asItGoes(told);
        if (what == CLAP) {
            return told.guests.has(guest) ? mill.clapLaw(now, guest, told.mood(now.on), 0) : ERROR;
        }
        return what == TURN || what == GRIT ? mill.stoneLaw(now, what, 0) : ERROR;
    }

    public int count(int what) {
        switch (what) {
            case 0:
                return told.acts.size;
            case 1:
                return told.guests.size;
            case 2:
                return told.grains.size;
            case 3:
                return told.shows.size;
            case 4:
                return told.knots;
            case 13:
                return notes.size;
            case 14:
                return notes.counted();
            case 15:
                return steps.size;
            default:
                return countOfHall(what);
        }
    }

    private int countOfHall(int what) {
        switch (what) {
            case 5:
                return now.minute;
            case 6:
                return now.speed;
            case 7:
                return told.allSacks() - now.groundInAll;
            case 8:
                return now.groundInAll;
            case 9:
                return now.refused;
            case 10:
                return now.coughed;
            case 11:
                return now.tiredInAll();
            case 12:
                return now.on == NONE ? NOT_SO : now.on;
            default:
                return NO_NUMBER;
        }
    }

    // ---- what is done by call

    public int stage(int act) {
        if (!told.acts.has(act)) {
            return NONE;
        }
        if (now.on != NONE) {
            return NOT_SO;
        }
        now.putOn(act, told.minutesOf(act));
        steps.add(Steps.STAGED, 0, 0);
        return now.left;
    }

    public int change(int one, int other) {
        if (!areTwoGuests(one, other)) {
            return NONE;
        }
        now.swapSeats(one, other);
        steps.add(Steps.CHANGED, one, other);
        return now.seatOf(one);
    }

    private boolean areTwoGuests(int one, int other) {
        return told.guests.has(one) && told.guests.has(other) && one != other;
    }

    public int push(int by) {
        if (by < -MOST_SPEED || by > MOST_SPEED || by == 0) {
            return NO_NUMBER;
        }
        steps.add(Steps.PUSHED, now.speed, 0);
        now.speed = (int) within(now.speed + by, -MOST_SPEED, MOST_SPEED);
        return now.speed;
    }

    public int go(int n) {
        if (n < 0 || n > MOST_AHEAD || now.minute + n > LAST_MINUTE) {
            return NONE;
        }
        mill.byNumbers(told);
        mill.pass(now, n);
        if (n > 0) {
            steps.clear();
        }
        return now.minute;
    }

    public int undo() {
        if (steps.size == 0) {
            return NONE;
        }
        steps.takeBack(now);
        return steps.size;
    }

    public int keep() {
        image.copy(now);
        hasImage = true;
        return now.minute;
    }

    public int back() {
        if (!hasImage) {
            return NONE;
        }
        now.copy(image);
        steps.clear();
        return now.minute;
    }

    // ---- what comes

    private void startTrial() {
        trial.copy(now);
        mill.asItGoes(told);
    }

    public int ahead(int n, int what, int i) {
        if (n < 0 || n > MOST_AHEAD || !canBeAhead(what, i)) {
            return NO_NUMBER;
        }
        startTrial();
        mill.pass(trial, n);
        switch (what) {
            case 0:
                return trial.groundInAll;
            case 1:
                return trial.ground[i];
            case 2:
                return trial.speed;
            case 3:
                return trial.refused - now.refused;
            default:
                return trial.tired[i];
        }
    }

    private boolean canBeAhead(int what, int i) {
        if (what == 1) {
            return told.grains.has(i);
        }
        if (what == 4) {
            return told.guests.has(i);
        }
        return what == 0 || what == 2 || what == 3;
    }

    public int flour(int sacks) {
        if (sacks < 0 || sacks > MOST_SACKS) {
            return NONE;
        }
        startTrial();
        for (int minutes = 0; minutes <= MOST_FLOUR_MINUTES; minutes++) {
            if (trial.groundInAll >= sacks) {
                return minutes;
            }
            mill.pass(trial, 1);
        }
        return NOT_SO;
    }

    public int bill(int what) {
        int acts = Math.min(told.acts.size, MOST_BILLED);
        if (what < 0 || what > MOST_BILLED) {
            return NONE;
        }
        if (what < MOST_BILLED && what >= acts) {
            return NOT_SO;
        }
        int most = 0;
        order.begin(acts);
        for (int k = 0; k < order.orders; k++) {
            int ground = groundByBill(acts);
            if (k == 0 || ground > most) {
                most = ground;
                order.keepBest();
            }
            order.turnToNext();
        }
        return what == MOST_BILLED ? most : order.best[what];
    }

    private int groundByBill(int acts) {
        startTrial();
        mill.withShows = false;
        for (int i = 0; i < acts; i++) {
            int act = order.places[i];
            trial.putOn(act, told.minutesOf(act));
            mill.pass(trial, told.minutesOf(act));
        }
        return trial.groundInAll;
    }

    public int seats(int act, int what) {
        if (!told.acts.has(act) || what < 0 || what > MOST_GUESTS) {
            return NO_NUMBER;
        }
        int guests = told.guests.size;
        if (what < MOST_GUESTS && what >= guests) {
            return NOT_SO;
        }
        int most = bestSeats(act, guests);
        return what == MOST_GUESTS ? most : order.best[what];
    }

    private int bestSeats(int act, int guests) {
        int most = 0;
        mill.asItGoes(told);
        Arrays.fill(clapRow, NOT_ASKED);
        order.begin(guests);
        for (int k = 0; k < order.orders; k++) {
            int sum = sumBySeats(act, guests);
            if (k == 0 || sum > most) {
                most = sum;
                order.keepBest();
            }
            order.turnToNext();
        }
        return most;
    }

    private int sumBySeats(int act, int guests) {
        int sum = 0;
        int beside = 0;
        for (int seat = 0; seat < guests; seat++) {
            beside = clapBeside(act, order.places[seat], beside);
            sum += beside;
        }
        return sum;
    }

    /** A guest's claps hang on nothing but the neighbour's here, so each pair is worked out once. */
    private int clapBeside(int act, int guest, int beside) {
        int at = guest * CLAPS + beside + MOST_CLAP;
        if (at < 0 || at >= clapRow.length) {
            return 0;
        }
        if (clapRow[at] == NOT_ASKED) {
            clapRow[at] = mill.clapOf(now, guest, told.mood(act), beside);
        }
        return clapRow[at];
    }

    public int enough(int act, int sum) {
        if (!told.acts.has(act) || sum < 1 || sum > 99) {
            return NONE;
        }
        int best = NOT_SO;
        for (int bits = 1; bits < 1 << told.guests.size; bits++) {
            boolean isFewer = best == NOT_SO || Integer.bitCount(bits) < Integer.bitCount(best);
            if (isFewer && sumOf(act, bits) >= sum) {
                best = bits;
            }
        }
        return best;
    }

    private int sumOf(int act, int bits) {
        int sum = 0;
        for (int guest = 0; guest < told.guests.size; guest++) {
            if (((bits >> guest) & 1) == 1) {
                sum += told.without(guest, told.mood(act));
            }
        }
        return sum;
    }

    public int span(int grain) {
        if (!told.grains.has(grain)) {
            return NONE;
        }
        mill.asItGoes(told);
        int speeds = 0;
        for (int speed = 1; speed <= MOST_SPEED; speed++) {
            if (mill.grainAt(now, speed) == grain) {
                speeds++;
            }
        }
        return speeds;
    }

    public int pushFor(int n, int sacks) {
        if (n < 0 || n > SEEN_MINUTES || sacks < 1 || sacks > 99) {
            return NONE;
        }
        for (int speed = 0; speed <= MOST_SPEED; speed++) {
            startTrial();
            trial.speed = speed;
            mill.pass(trial, n);
            if (trial.groundInAll - now.groundInAll >= sacks) {
                return speed;
            }
        }
        return NOT_SO;
    }

    public int silence(int n) {
        if (n < 0 || n > MOST_AHEAD) {
            return NONE;
        }
        startTrial();
        int longest = 0;
        int running = 0;
        for (int i = 0; i < n; i++) {
            mill.pass(trial, 1);
            running = trial.speed == 0 ? running + 1 : 0;
            longest = Math.max(longest, running);
        }
        return longest;
    }

    // ---- games and likings

    public int game(int grain, int what) {
        if (!told.grains.has(grain) || what < 0 || what > 1) {
            return NONE;
        }
        int room = told.high(grain) - now.speed;
        // Who leaves a multiple of 4 answers each number by what makes 4 with it.
        int first = room < 0 ? 0 : room % 4;
        if (what == 1) {
            return first == 0 ? NOT_SO : first;
        }
        if (room < 0) {
            return 2;
        }
        return first == 0 ? 1 : 0;
    }

    public int rests(int one, int other, int act) {
        if (!areTwoGuests(one, other) || !told.acts.has(act)) {
            return NONE;
        }
        int found = 0;
        for (int both = 0; both < 4; both++) {
            if (isRest(one, other, told.mood(act), both)) {
                found++;
            }
        }
        return found;
    }

    public int rest(int one, int other, int act, int k) {
        if (!areTwoGuests(one, other) || !told.acts.has(act) || k < 0) {
            return NONE;
        }
        int found = 0;
        for (int both = 0; both < 4; both++) {
            if (isRest(one, other, told.mood(act), both)) {
                if (found == k) {
                    return 10 * (both >> 1) + (both & 1);
                }
                found++;
            }
        }
        return NOT_SO;
    }

    private boolean isRest(int one, int other, int mood, int both) {
        int first = both >> 1;
        int second = both & 1;
        return gain(one, mood, first, second) >= gain(one, mood, 1 - first, second)
                && gain(other, mood, second, first) >= gain(other, mood, 1 - second, first);
    }

    private int gain(int guest, int mood, int own, int others) {
        if (own == 1) {
            return others == 0 ? 1 : 0;
        }
        int without = told.without(guest, mood);
        return others == 0 ? without + 2 - told.hunger(guest) / 3 : without - told.hunger(guest) / 2;
    }

    public int dearest(int guest) {
        if (!told.guests.has(guest)) {
            return NONE;
        }
        int best = NOT_SO;
        int least = 0;
        for (int act = 0; act < told.acts.size; act++) {
            int apart = Math.abs(told.mood(act) - told.taste(guest));
            if (best == NOT_SO || apart < least) {
                best = act;
                least = apart;
            }
        }
        return best;
    }

    public long quiet(int n, int what) {
        if (n < 0 || n > 6 || what < 0 || what > 1) {
            return NONE;
        }
        int above = 100 - told.cough;
        int common = 100;
        while (common > 1 && (above % common != 0 || 100 % common != 0)) {
            common--;
        }
        int base = what == 0 ? above / common : 100 / common;
        long power = 1;
        for (int i = 0; i < n; i++) {
            power *= base;
        }
        return power;
    }

    // ---- what was seen

    public int see(int minutes, int sacks, boolean atLeast) {
        if (minutes < 1 || minutes > SEEN_MINUTES || sacks < 0 || sacks > MOST_SACKS || notes.isFull()) {
            return NONE;
        }
        return notes.addSight(minutes, sacks, atLeast);
    }

    public int strike(int seen) {
        if (seen < 0 || seen >= notes.size || notes.isFull()) {
            return NONE;
        }
        return notes.addStrike(seen);
    }

    public boolean known(int n) {
        if (n < -1 || n > notes.size) {
            return false;
        }
        notes.knownBy = n;
        return true;
    }

    public int moods(int act) {
        if (!told.acts.has(act)) {
            return NONE;
        }
        foresee(act);
        return agreeingMoods();
    }

    private int agreeingMoods() {
        notes.weigh();
        int bits = 0;
        for (int mood = 0; mood < MOODS; mood++) {
            if (notes.agree(futures, mood * SEEN_MINUTES)) {
                bits |= 1 << mood;
            }
        }
        return bits;
    }

    /** Sacks ground behind each minute by each mood of an act; they hang on the text alone. */
    private void foresee(int act) {
        if (futuresAct == act) {
            return;
        }
        mill.asItGoes(told);
        mill.otherAct = act;
        for (int mood = 0; mood < MOODS; mood++) {
            mill.otherMood = mood;
            trial.begin(told.seed);
            for (int minute = 0; minute < SEEN_MINUTES; minute++) {
                mill.pass(trial, 1);
                futures[mood * SEEN_MINUTES + minute] = trial.groundInAll;
            }
        }
        futuresAct = act;
    }

    public int ask(int act, int what) {
        if (!told.acts.has(act) || what < 0 || what > 1) {
            return NONE;
        }
        foresee(act);
        int bits = agreeingMoods();
        int best = 0;
        int least = 0;
        for (int minute = 0; minute < SEEN_MINUTES; minute++) {
            int worst = leftAtWorst(bits, minute);
            if (minute == 0 || worst < least) {
                best = minute;
                least = worst;
            }
        }
        return what == 0 ? best + 1 : least;
    }

    private int leftAtWorst(int bits, int minute) {
        int worst = 0;
        for (int mood = 0; mood < MOODS; mood++) {
            if (((bits >> mood) & 1) == 1) {
                worst = Math.max(worst, leftBy(bits, minute, futures[mood * SEEN_MINUTES + minute]));
            }
        }
        return worst;
    }

    private int leftBy(int bits, int minute, int answer) {
        int left = 0;
        for (int mood = 0; mood < MOODS; mood++) {
            if (((bits >> mood) & 1) == 1 && futures[mood * SEEN_MINUTES + minute] == answer) {
                left++;
            }
        }
        return left;
    }

    // ---- chance, and otherwise

    public int chance(int seed, int n, int sacks) {
        if (seed < 0 || n < 1 || n > 99 || sacks < 0 || sacks > MOST_SACKS) {
            return NONE;
        }
        mill.byNumbers(told);
        long number = seed;
        int times = 0;
        for (int i = 0; i < 10; i++) {
            trial.copy(now);
            trial.number = number;
            mill.pass(trial, n);
            number = trial.number;
            if (trial.groundInAll >= sacks) {
                times++;
            }
        }
        return times;
    }

    public int tried(int what, int i, int n) {
        boolean isSuch = what == 2 ? told.guests.has(i) : what >= 0 && what <= 4 && i == 0;
        if (!isSuch || n < 0 || n > MOST_AHEAD) {
            return NONE;
        }
        startTrial();
        switch (what) {
            case 0:
                mill.coughs = Mill.NEVER;
                break;
            case 1:
                mill.coughs = Mill.ALWAYS;
                break;
            case 2:
                mill.mute = i;
                break;
            case 3:
                mill.givesBack = false;
                break;
            default:
                mill.isHungry = true;
                break;
        }
        mill.pass(trial, n);
        return trial.groundInAll;
    }

    private static long within(long value, long least, long most) {
        return Math.max(least, Math.min(most, value));
    }

    /** Things of one kind as they are told: a name's letters and up to three numbers each. */
    private static final class Roll {
        private final int most;
        private final int[] letters;
        private final int[] first;
        private final int[] second;
        private final int[] third;
        private int size = 0;

        Roll(int most) {
            this.most = most;
            letters = new int[most];
            first = new int[most];
            second = new int[most];
            third = new int[most];
        }

        boolean isFull() {
            return size >= most;
        }

        boolean has(int i) {
            return i >= 0 && i < size;
        }

        int find(int wanted) {
            for (int i = 0; i < size; i++) {
                if (letters[i] == wanted) {
                    return i;
                }
            }
            return NONE;
        }

        void add(int name, int one, int two, int three) {
            if (size < most) {
                letters[size] = name;
                first[size] = one;
                second[size] = two;
                third[size] = three;
                size++;
            }
        }
    }

    /** An E as a row of knots, each behind those that it joins. */
    private static final class Formula {
        static final int NUMBER = 0;
        static final int NAME = 1;
        static final int NOT = 2;
        static final int OR = 3;
        static final int AND = 4;
        static final int LESS = 5;
        static final int LESS_OR_LIKE = 6;
        static final int LIKE = 7;
        static final int UNLIKE = 8;
        static final int MORE_OR_LIKE = 9;
        static final int MORE = 10;
        static final int PLUS = 11;
        static final int MINUS = 12;
        static final int TIMES = 13;
        static final int BY = 14;

        private static final long LIMIT = 1000000000000L;

        private final int[] kinds = new int[MOST_KNOTS];
        private final int[] values = new int[MOST_KNOTS];
        private final long[] stack = new long[MOST_KNOTS];
        private int size = 0;
        private boolean isTold = false;

        void forget() {
            size = 0;
            isTold = false;
        }

        void add(int kind, int value) {
            if (size < MOST_KNOTS) {
                kinds[size] = kind;
                values[size] = value;
                size++;
            }
        }

        long value(long[] names) {
            int depth = 0;
            for (int i = 0; i < size; i++) {
                int kind = kinds[i];
                if (kind == NUMBER || kind == NAME) {
                    stack[depth] = kind == NUMBER ? values[i] : names[values[i]];
                    depth++;
                } else if (kind == NOT && depth >= 1) {
                    stack[depth - 1] = stack[depth - 1] == 0 ? 1 : 0;
                } else if (depth >= 2) {
                    depth--;
                    stack[depth - 1] = join(kind, stack[depth - 1], stack[depth]);
                    if (stack[depth - 1] > LIMIT || stack[depth - 1] < -LIMIT) {
                        return ERROR;
                    }
                }
            }
            return depth == 1 ? stack[0] : ERROR;
        }

        private static long join(int kind, long a, long b) {
            switch (kind) {
                case OR:
                    return a != 0 || b != 0 ? 1 : 0;
                case AND:
                    return a != 0 && b != 0 ? 1 : 0;
                case LESS:
                    return a < b ? 1 : 0;
                case LESS_OR_LIKE:
                    return a <= b ? 1 : 0;
                case LIKE:
                    return a == b ? 1 : 0;
                case UNLIKE:
                    return a != b ? 1 : 0;
                case MORE_OR_LIKE:
                    return a >= b ? 1 : 0;
                case MORE:
                    return a > b ? 1 : 0;
                case PLUS:
                    return a + b;
                case MINUS:
                    return a - b;
                case TIMES:
                    // Two values within the limit may have a product beyond a long's.
                    return a != 0 && Math.abs(b) > LIMIT / Math.abs(a) ? ERROR : a * b;
                default:
                    return b == 0 ? ERROR : a / b;
            }
        }
    }

    /** All that a text tells. */
    private static final class Script {
        private final Roll acts = new Roll(6);
        private final Roll guests = new Roll(MOST_GUESTS);
        private final Roll grains = new Roll(4);
        private final Roll shows = new Roll(14);
        private final Formula[] laws = {new Formula(), new Formula(), new Formula()};
        private int cough = 0;
        private int seed = 0;
        private boolean isCoughTold = false;
        private boolean isSeedTold = false;
        private int knots = 0;
        private int lines = 0;

        void forget() {
            acts.size = 0;
            guests.size = 0;
            grains.size = 0;
            shows.size = 0;
            for (int i = 0; i < laws.length; i++) {
                laws[i].forget();
            }
            cough = 0;
            seed = 0;
            isCoughTold = false;
            isSeedTold = false;
            knots = 0;
            lines = 0;
        }

        int mood(int act) {
            return act >= 0 && act < acts.size ? acts.first[act] : 0;
        }

        int minutesOf(int act) {
            return act >= 0 && act < acts.size ? acts.second[act] : 0;
        }

        int taste(int guest) {
            return guest >= 0 && guest < guests.size ? guests.first[guest] : 0;
        }

        int hunger(int guest) {
            return guest >= 0 && guest < guests.size ? guests.second[guest] : 0;
        }

        int without(int guest, int mood) {
            return 5 - Math.abs(taste(guest) - mood);
        }

        int low(int grain) {
            return grain >= 0 && grain < grains.size ? grains.first[grain] : 0;
        }

        int high(int grain) {
            return grain >= 0 && grain < grains.size ? grains.second[grain] : 0;
        }

        int sacks(int grain) {
            return grain >= 0 && grain < grains.size ? grains.third[grain] : 0;
        }

        int allSacks() {
            int sum = 0;
            for (int grain = 0; grain < grains.size; grain++) {
                sum += sacks(grain);
            }
            return sum;
        }
    }

    /** The tape cut into tokens, one at a time. */
    private static final class Tokens {
        static final int END = 0;
        static final int NUMBER = 1;
        static final int WORD = 2;
        static final int NAME = 3;
        static final int JOINT = 4;
        static final int OPEN = 5;
        static final int CLOSE = 6;
        static final int STOP = 7;
        static final int BAD = 8;

        static final int LINE_WORDS = 7;
        static final int FIRST_LAW = 7;
        static final int OR = 10;
        static final int AND = 11;
        static final int NOT = 12;
        static final int FIRST_NAME = 13;

        private static final int LETTERS = 6;
        private static final int WORDS_COUNT = 20;
        private static final int MUCH = 1000000;
        private static final String WORDS =
                "act   guest grain show  cough seed  law   clap  turn  grit  or    and   not   mood  taste hungerbesidespeed tired minute";

        private final int[] words = new int[WORDS_COUNT];
        private byte[] bytes = new byte[0];
        private int limit = 0;
        private int at = 0;
        private int kind = END;
        private int value = 0;
        private int place = 0;

        Tokens() {
            for (int i = 0; i < WORDS_COUNT; i++) {
                int code = 0;
                for (int k = i * LETTERS; k < (i + 1) * LETTERS && k < WORDS.length(); k++) {
                    char sign = WORDS.charAt(k);
                    code = code * 32 + (sign == ' ' ? 0 : sign - 'a' + 1);
                }
                words[i] = code;
            }
        }

        void begin(byte[] from, int length) {
            bytes = from;
            limit = Math.min(length, from.length);
            at = 0;
            next();
        }

        private int peek() {
            return at < limit ? bytes[at] & 255 : NONE;
        }

        void next() {
            while (at < limit && (peek() == 10 || peek() == 32)) {
                at++;
            }
            place = at;
            value = 0;
            int sign = peek();
            if (sign == NONE) {
                kind = END;
            } else if (isDigit(sign)) {
                takeNumber();
            } else if (isLetter(sign)) {
                takeWord();
            } else {
                at++;
                takeSign(sign, peek());
            }
        }

        private static boolean isDigit(int sign) {
            return sign >= '0' && sign <= '9';
        }

        private static boolean isLetter(int sign) {
            return sign >= 'a' && sign <= 'z';
        }

        private void takeNumber() {
            kind = NUMBER;
            while (at < limit && isDigit(peek())) {
                value = Math.min(value * 10 + peek() - '0', MUCH);
                at++;
            }
        }

        private void takeWord() {
            int code = 0;
            while (at < limit && isLetter(peek())) {
                if (at - place < LETTERS) {
                    code += (peek() - 'a' + 1) << 5 * (LETTERS - 1 - (at - place));
                }
                at++;
            }
            value = code;
            kind = at - place > LETTERS ? BAD : NAME;
            for (int i = 0; i < WORDS_COUNT && kind == NAME; i++) {
                if (words[i] == code) {
                    kind = WORD;
                    value = i;
                }
            }
        }

        private void takeSign(int sign, int behind) {
            switch (sign) {
                case ';':
                    kind = STOP;
                    return;
                case '(':
                    kind = OPEN;
                    return;
                case ')':
                    kind = CLOSE;
                    return;
                default:
                    value = jointOf(sign, behind);
                    kind = value == NONE ? BAD : JOINT;
                    if (value == Formula.LESS_OR_LIKE || value == Formula.UNLIKE || value == Formula.MORE_OR_LIKE) {
                        at++;
                    }
            }
        }

        private static int jointOf(int sign, int behind) {
            switch (sign) {
                case '+':
                    return Formula.PLUS;
                case '-':
                    return Formula.MINUS;
                case '*':
                    return Formula.TIMES;
                case '/':
                    return Formula.BY;
                case '=':
                    return Formula.LIKE;
                case '<':
                    if (behind == '>') {
                        return Formula.UNLIKE;
                    }
                    return behind == '=' ? Formula.LESS_OR_LIKE : Formula.LESS;
                case '>':
                    return behind == '=' ? Formula.MORE_OR_LIKE : Formula.MORE;
                default:
                    return NONE;
            }
        }
    }

    /** Reads a text's lines into a script, up to the first fault. */
    private static final class Reader {
        private static final int CANNOT_STAND = 1;
        private static final int TOO_MUCH = 2;
        private static final int TOLD_ALREADY = 3;
        private static final int NOT_TOLD = 4;

        private final Tokens tokens = new Tokens();
        private final Phrase phrase;
        private Script script;
        private int faultKind = 0;
        private int faultPlace = NONE;

        Reader(Script first) {
            script = first;
            phrase = new Phrase(first.laws[CLAP]);
        }

        void readAll(byte[] bytes, int length, Script into) {
            script = into;
            script.forget();
            faultKind = 0;
            faultPlace = NONE;
            tokens.begin(bytes, length);
            for (int i = 0; i < length && faultKind == 0 && tokens.kind != Tokens.END; i++) {
                readLine();
                if (faultKind == 0 && isDue(tokens.kind == Tokens.STOP)) {
                    script.lines++;
                    tokens.next();
                }
            }
        }

        private void blame(int kind) {
            if (faultKind == 0) {
                faultKind = kind;
                faultPlace = tokens.place;
            }
        }

        private boolean isDue(boolean stands) {
            if (!stands) {
                blame(CANNOT_STAND);
            }
            return stands;
        }

        private void readLine() {
            if (!isDue(tokens.kind == Tokens.WORD && tokens.value < Tokens.LINE_WORDS)) {
                return;
            }
            switch (tokens.value) {
                case 0:
                    readThing(script.acts, 1, NONE);
                    break;
                case 1:
                    readThing(script.guests, 0, NONE);
                    break;
                case 2:
                    readThing(script.grains, 0, 99);
                    break;
                case 3:
                    readShow();
                    break;
                case 4:
                    readCough();
                    break;
                case 5:
                    readSeed();
                    break;
                default:
                    readLaw();
                    break;
            }
        }

        /** A third number comes only where it has a most; then all three have the same one. */
        private void readThing(Roll roll, int leastSecond, int mostThird) {
            if (roll.isFull()) {
                blame(TOO_MUCH);
                return;
            }
            tokens.next();
            int name = readName();
            if (faultKind == 0 && roll.find(name) != NONE) {
                blame(TOLD_ALREADY);
            }
            passName();
            int most = mostThird == NONE ? 9 : mostThird;
            int first = readNumber(0, most);
            int second = readNumber(leastSecond, most);
            int third = mostThird == NONE ? 0 : readNumber(0, mostThird);
            if (faultKind == 0) {
                roll.add(name, first, second, third);
            }
        }

        private void readShow() {
            if (script.shows.isFull()) {
                blame(TOO_MUCH);
                return;
            }
            tokens.next();
            int act = script.acts.find(readName());
            if (faultKind == 0 && act == NONE) {
                blame(NOT_TOLD);
            }
            passName();
            int minute = readNumber(0, 99);
            if (faultKind == 0) {
                script.shows.add(0, act, minute, 0);
            }
        }

        private void readCough() {
            if (script.isCoughTold) {
                blame(TOLD_ALREADY);
                return;
            }
            tokens.next();
            script.cough = readNumber(0, 100);
            script.isCoughTold = true;
        }

        private void readSeed() {
            if (script.isSeedTold) {
                blame(TOLD_ALREADY);
                return;
            }
            tokens.next();
            script.seed = readNumber(0, 99999);
            script.isSeedTold = true;
        }

        private void readLaw() {
            tokens.next();
            int which = tokens.value - Tokens.FIRST_LAW;
            if (!isDue(tokens.kind == Tokens.WORD && which >= CLAP && which <= GRIT)) {
                return;
            }
            if (script.laws[which].isTold) {
                blame(TOLD_ALREADY);
                return;
            }
            tokens.next();
            script.laws[which].isTold = true;
            int fault = phrase.readInto(script.laws[which], tokens, MOST_KNOTS - script.knots);
            script.knots += phrase.knots;
            if (fault != 0) {
                blame(fault);
            }
        }

        private int readName() {
            return isDue(tokens.kind == Tokens.NAME) ? tokens.value : 0;
        }

        private void passName() {
            if (faultKind == 0) {
                tokens.next();
            }
        }

        private int readNumber(int least, int most) {
            if (faultKind != 0 || !isDue(tokens.kind == Tokens.NUMBER)) {
                return 0;
            }
            int number = tokens.value;
            if (number < least || number > most) {
                blame(TOO_MUCH);
                return 0;
            }
            tokens.next();
            return number;
        }
    }

    /**
     * Reads one E. Joints wait on a stack until one of lower rank comes, so a deep text needs no
     * deep calls.
     */
    private static final class Phrase {
        private static final int BRACKET = 15;
        private static final int NOT_RANK = 3;
        private static final int COMPARE_RANK = 4;
        private static final int[] RANKS = {0, 0, 3, 1, 2, 4, 4, 4, 4, 4, 4, 5, 5, 6, 6, 0};
        private static final int MOST_OPEN = 8;
        private static final int MOST_NUMBER = 9999;

        private final int[] waiting = new int[MOST_KNOTS + MOST_OPEN];
        private int waits = 0;
        private int open = 0;
        private int knots = 0;
        private int room = 0;
        private int faultKind = 0;
        private Formula formula;

        Phrase(Formula first) {
            formula = first;
        }

        /** Answers the fault of the token at which it stopped, or 0 at the first token behind E. */
        int readInto(Formula into, Tokens tokens, int knotsLeft) {
            formula = into;
            waits = 0;
            open = 0;
            knots = 0;
            room = knotsLeft;
            faultKind = 0;
            boolean isPartDue = true;
            for (int i = 0; i <= tokens.limit; i++) {
                if (!isPartDue && open == 0 && tokens.kind == Tokens.STOP) {
                    break;
                }
                isPartDue = isPartDue ? takePart(tokens) : takeJoint(tokens);
                if (faultKind != 0) {
                    return faultKind;
                }
                tokens.next();
            }
            settle(1);
            return 0;
        }

        private boolean takePart(Tokens tokens) {
            switch (tokens.kind) {
                case Tokens.NUMBER:
                    addKnot(tokens.value <= MOST_NUMBER);
                    formula.add(Formula.NUMBER, tokens.value);
                    return false;
                case Tokens.OPEN:
                    takeBracket();
                    return true;
                case Tokens.WORD:
                    return takeWord(tokens.value);
                default:
                    faultKind = Reader.CANNOT_STAND;
                    return true;
            }
        }

        private boolean takeWord(int word) {
            if (word >= Tokens.FIRST_NAME) {
                addKnot(true);
                formula.add(Formula.NAME, word - Tokens.FIRST_NAME);
                return false;
            }
            if (word == Tokens.NOT && topRank() <= NOT_RANK) {
                addKnot(true);
                hold(Formula.NOT);
            } else {
                faultKind = Reader.CANNOT_STAND;
            }
            return true;
        }

        private void takeBracket() {
            if (open >= MOST_OPEN) {
                faultKind = Reader.TOO_MUCH;
            } else {
                open++;
                hold(BRACKET);
            }
        }

        private boolean takeJoint(Tokens tokens) {
            if (tokens.kind == Tokens.CLOSE && open > 0) {
                settle(1);
                open--;
                waits--;
                return false;
            }
            int joint = jointOf(tokens);
            if (joint == NONE) {
                faultKind = Reader.CANNOT_STAND;
                return true;
            }
            int rank = RANKS[joint];
            // A comparison joins sums only, so one that waits can't be the left side of another.
            settle(rank == COMPARE_RANK ? rank + 1 : rank);
            if (rank == COMPARE_RANK && topRank() == COMPARE_RANK) {
                faultKind = Reader.CANNOT_STAND;
                return true;
            }
            addKnot(true);
            hold(joint);
            return true;
        }

        private static int jointOf(Tokens tokens) {
            if (tokens.kind == Tokens.JOINT) {
                return tokens.value;
            }
            if (tokens.kind == Tokens.WORD && tokens.value == Tokens.OR) {
                return Formula.OR;
            }
            return tokens.kind == Tokens.WORD && tokens.value == Tokens.AND ? Formula.AND : NONE;
        }

        private void addKnot(boolean isSmall) {
            knots++;
            if (knots > room || !isSmall) {
                faultKind = Reader.TOO_MUCH;
            }
        }

        private void hold(int joint) {
            if (waits < waiting.length) {
                waiting[waits] = joint;
                waits++;
            }
        }

        private int topRank() {
            return waits > 0 ? RANKS[waiting[waits - 1]] : 0;
        }

        /** Puts what waits with that rank at least behind what it joins, down to a bracket. */
        private void settle(int rank) {
            while (waits > 0 && topRank() >= rank) {
                waits--;
                formula.add(waiting[waits], 0);
            }
        }
    }

    /** How it stands in the hall and at the stones. */
    private static final class Hall {
        private int minute;
        private int speed;
        private int on;
        private int left;
        private int refused;
        private int coughed;
        private int groundInAll;
        private int latest;
        private long number;
        private final int[] ground = new int[4];
        private final int[] tired = new int[MOST_GUESTS];
        private final int[] clapped = new int[MOST_GUESTS];
        private final int[] seating = new int[MOST_GUESTS];

        Hall() {
            begin(0);
        }

        void begin(int seed) {
            minute = 0;
            speed = 0;
            on = NONE;
            left = 0;
            refused = 0;
            coughed = 0;
            groundInAll = 0;
            latest = NONE;
            number = seed;
            for (int i = 0; i < ground.length; i++) {
                ground[i] = 0;
            }
            for (int i = 0; i < MOST_GUESTS; i++) {
                tired[i] = 0;
                clapped[i] = 0;
                seating[i] = i;
            }
        }

        void copy(Hall from) {
            minute = from.minute;
            speed = from.speed;
            on = from.on;
            left = from.left;
            refused = from.refused;
            coughed = from.coughed;
            groundInAll = from.groundInAll;
            latest = from.latest;
            number = from.number;
            for (int i = 0; i < ground.length; i++) {
                ground[i] = from.ground[i];
            }
            for (int i = 0; i < MOST_GUESTS; i++) {
                tired[i] = from.tired[i];
                clapped[i] = from.clapped[i];
                seating[i] = from.seating[i];
            }
        }

        void putOn(int act, int minutes) {
            on = act;
            left = minutes;
        }

        void putOff() {
            on = NONE;
            left = 0;
        }

        int seatOf(int guest) {
            for (int seat = 0; seat < MOST_GUESTS; seat++) {
                if (seating[seat] == guest) {
                    return seat;
                }
            }
            return NONE;
        }

        void swapSeats(int one, int other) {
            int first = seatOf(one);
            int second = seatOf(other);
            if (first != NONE && second != NONE) {
                seating[first] = other;
                seating[second] = one;
            }
        }

        int tiredInAll() {
            int sum = 0;
            for (int i = 0; i < MOST_GUESTS; i++) {
                sum += tired[i];
            }
            return sum;
        }

        void grind(int grain, int sacks) {
            ground[grain] += sacks;
            groundInAll += sacks;
        }
    }

    /** Lets minutes go by in a hall, in one of the ways that calls ask for. */
    private static final class Mill {
        static final int AS_IT_GOES = 0;
        static final int BY_NUMBERS = 1;
        static final int NEVER = 2;
        static final int ALWAYS = 3;

        private static final int MOST_TIRED = 9999;
        private static final int MOST_GRIT = 9;

        private final long[] names = new long[7];
        private Script script;
        private int coughs = AS_IT_GOES;
        private boolean withShows = true;
        private int mute = NONE;
        private boolean givesBack = true;
        private boolean isHungry = false;
        private int otherAct = NONE;
        private int otherMood = 0;

        Mill(Script first) {
            script = first;
        }

        void asItGoes(Script of) {
            script = of;
            coughs = AS_IT_GOES;
            withShows = true;
            mute = NONE;
            givesBack = true;
            isHungry = false;
            otherAct = NONE;
            otherMood = 0;
        }

        void byNumbers(Script of) {
            asItGoes(of);
            coughs = BY_NUMBERS;
        }

        void pass(Hall hall, int minutes) {
            for (int i = 0; i < minutes; i++) {
                if (withShows) {
                    raiseShows(hall);
                }
                int sum = applause(hall);
                if (hall.on != NONE && isCoughed(hall)) {
                    hall.coughed++;
                    sum = 0;
                }
                turnStones(hall, sum);
                grind(hall, sum);
                hall.left--;
                if (hall.left <= 0) {
                    hall.putOff();
                }
                hall.minute++;
            }
        }

        private void raiseShows(Hall hall) {
            for (int show = 0; show < script.shows.size; show++) {
                if (script.shows.second[show] == hall.minute) {
                    if (hall.on == NONE) {
                        int act = script.shows.first[show];
                        hall.putOn(act, script.minutesOf(act));
                    } else {
                        hall.refused++;
                    }
                }
            }
        }

        private int applause(Hall hall) {
            int sum = 0;
            int beside = 0;
            int mood = moodOn(hall);
            for (int seat = 0; seat < MOST_GUESTS; seat++) {
                int guest = hall.seating[seat];
                if (script.guests.has(guest)) {
                    boolean isSilent = hall.on == NONE || guest == mute;
                    beside = isSilent ? 0 : clapOf(hall, guest, mood, beside);
                    hall.clapped[guest] = beside;
                    if (beside > 0 && hall.tired[guest] < MOST_TIRED) {
                        hall.tired[guest]++;
                    }
                    sum += beside;
                }
            }
            return sum;
        }

        private int moodOn(Hall hall) {
            if (hall.on == NONE) {
                return 0;
            }
            return hall.on == otherAct ? otherMood : script.mood(hall.on);
        }

        int clapOf(Hall hall, int guest, int mood, int beside) {
            if (!script.laws[CLAP].isTold) {
                return script.without(guest, mood);
            }
            nameGuest(hall, guest, mood, beside);
            long claps = script.laws[CLAP].value(names);
            return claps == ERROR ? script.without(guest, mood) : (int) within(claps, -MOST_CLAP, MOST_CLAP);
        }

        long clapLaw(Hall hall, int guest, int mood, int beside) {
            if (!script.laws[CLAP].isTold) {
                return ERROR;
            }
            nameGuest(hall, guest, mood, beside);
            return script.laws[CLAP].value(names);
        }

        /** The law of turning or of grinding: of no guest, by the sum. */
        long stoneLaw(Hall hall, int which, int sum) {
            if (!script.laws[which].isTold) {
                return ERROR;
            }
            names[0] = moodOn(hall);
            names[1] = 0;
            names[2] = 0;
            names[3] = sum;
            names[4] = hall.speed;
            names[5] = hall.groundInAll;
            names[6] = hall.minute;
            return script.laws[which].value(names);
        }

        private void nameGuest(Hall hall, int guest, int mood, int beside) {
            names[0] = mood;
            names[1] = script.taste(guest);
            names[2] = isHungry ? 9 : script.hunger(guest);
            names[3] = beside;
            names[4] = hall.speed;
            names[5] = hall.tired[guest];
            names[6] = hall.minute;
        }

        private boolean isCoughed(Hall hall) {
            switch (coughs) {
                case NEVER:
                    return false;
                case ALWAYS:
                    return true;
                case BY_NUMBERS:
                    if (script.cough > 0 && script.cough < 100) {
                        return draw(hall) % 100 < script.cough;
                    }
                    return script.cough >= 100;
                default:
                    return script.cough >= 50;
            }
        }

        private static long draw(Hall hall) {
            hall.number = (hall.number * 1103515245L + 12345L) & 0x7fffffffL;
            return hall.number / 65536;
        }

        private void turnStones(Hall hall, int sum) {
            long turned = stoneLaw(hall, TURN, sum);
            long speed = turned == ERROR ? (hall.speed + sum) / 2 : turned;
            hall.speed = (int) within(speed, -MOST_SPEED, MOST_SPEED);
        }

        private void grind(Hall hall, int sum) {
            if (hall.speed < 0) {
                giveBack(hall);
                return;
            }
            int grain = grainAt(hall, hall.speed);
            if (grain == NONE) {
                return;
            }
            long wanted = stoneLaw(hall, GRIT, sum);
            int most = wanted == ERROR ? 1 : (int) within(wanted, 0, MOST_GRIT);
            int sacks = Math.min(most, script.sacks(grain) - hall.ground[grain]);
            if (sacks > 0) {
                hall.grind(grain, sacks);
                hall.latest = grain;
            }
        }

        private void giveBack(Hall hall) {
            if (givesBack && script.grains.has(hall.latest) && hall.ground[hall.latest] > 0) {
                hall.grind(hall.latest, -1);
            }
        }

        /** The grain that a speed grinds now, or NONE. */
        int grainAt(Hall hall, int speed) {
            for (int grain = 0; grain < script.grains.size && speed > 0; grain++) {
                boolean isLeft = hall.ground[grain] < script.sacks(grain);
                if (isLeft && script.low(grain) <= speed && script.high(grain) >= speed) {
                    return grain;
                }
            }
            return NONE;
        }
    }

    /** What was done by call in this minute, to be undone; the oldest gives way. */
    private static final class Steps {
        static final int STAGED = 0;
        static final int CHANGED = 1;
        static final int PUSHED = 2;

        private static final int MOST = 20;

        private final int[] kinds = new int[MOST];
        private final int[] firsts = new int[MOST];
        private final int[] seconds = new int[MOST];
        private int size = 0;

        void clear() {
            size = 0;
        }

        void add(int kind, int first, int second) {
            if (size >= MOST) {
                dropOldest();
            }
            kinds[size] = kind;
            firsts[size] = first;
            seconds[size] = second;
            size++;
        }

        private void dropOldest() {
            for (int i = 1; i < MOST; i++) {
                kinds[i - 1] = kinds[i];
                firsts[i - 1] = firsts[i];
                seconds[i - 1] = seconds[i];
            }
            size = MOST - 1;
        }

        void takeBack(Hall hall) {
            if (size == 0) {
                return;
            }
            size--;
            switch (kinds[size]) {
                case STAGED:
                    hall.putOff();
                    break;
                case CHANGED:
                    hall.swapSeats(firsts[size], seconds[size]);
                    break;
                default:
                    hall.speed = firsts[size];
                    break;
            }
        }
    }

    /** What was seen, and what of it was struck; both are numbered in one row. */
    private static final class Notes {
        private static final int MOST = 24;

        private final int[] minutes = new int[MOST];
        private final int[] sacks = new int[MOST];
        private final boolean[] atLeast = new boolean[MOST];
        private final int[] strikes = new int[MOST];
        private final boolean[] isStruck = new boolean[MOST];
        private int size = 0;
        private int knownBy = NONE;

        void clear() {
            size = 0;
            knownBy = NONE;
        }

        boolean isFull() {
            return size >= MOST;
        }

        int counted() {
            return knownBy == NONE ? size : knownBy;
        }

        int addSight(int behind, int ground, boolean orMore) {
            minutes[size] = behind;
            sacks[size] = ground;
            atLeast[size] = orMore;
            strikes[size] = NONE;
            size++;
            return size - 1;
        }

        int addStrike(int seen) {
            minutes[size] = 0;
            sacks[size] = 0;
            atLeast[size] = false;
            strikes[size] = seen;
            size++;
            return size - 1;
        }

        /** A strike strikes only what is ahead of it, so the last one's worth is known first. */
        void weigh() {
            for (int i = 0; i < MOST; i++) {
                isStruck[i] = false;
            }
            for (int i = counted() - 1; i >= 0; i--) {
                if (!isStruck[i] && strikes[i] != NONE) {
                    isStruck[strikes[i]] = true;
                }
            }
        }

        /** Whether all that is known is so by the sacks ground behind each minute, from a place on. */
        boolean agree(int[] grounds, int from) {
            for (int i = 0; i < counted(); i++) {
                int at = from + minutes[i] - 1;
                boolean counts = strikes[i] == NONE && !isStruck[i];
                if (counts && at >= 0 && at < grounds.length) {
                    boolean wasEnough = grounds[at] >= sacks[i];
                    if (wasEnough != atLeast[i]) {
                        return false;
                    }
                }
            }
            return true;
        }
    }

    /** All orders of the first few numbers, the first by numbers first, and the best one so far. */
    private static final class Order {
        private final int[] places = new int[MOST_GUESTS];
        private final int[] best = new int[MOST_GUESTS];
        private int size = 0;
        private int orders = 1;

        void begin(int of) {
            size = Math.min(of, MOST_GUESTS);
            orders = 1;
            for (int i = 0; i < size; i++) {
                places[i] = i;
                best[i] = i;
                orders *= i + 1;
            }
        }

        void keepBest() {
            for (int i = 0; i < size; i++) {
                best[i] = places[i];
            }
        }

        void turnToNext() {
            int low = size - 2;
            while (low >= 0 && places[low] > places[low + 1]) {
                low--;
            }
            if (low < 0) {
                return;
            }
            int high = size - 1;
            while (high > low && places[high] < places[low]) {
                high--;
            }
            swap(low, high);
            for (int i = low + 1, k = size - 1; i < k; i++, k--) {
                swap(i, k);
            }
        }

        private void swap(int i, int k) {
            int one = places[i];
            places[i] = places[k];
            places[k] = one;
        }
    }
}
