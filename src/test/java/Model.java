import java.util.ArrayList;
import java.util.HashSet;
import java.util.List;
import java.util.Map;
import java.util.Set;
import java.util.TreeMap;

/** The document once more, written for plainness alone: trees, lists and searches that try all. */
final class Model {
    static final int NONE = -1;
    static final int LOW = Integer.MIN_VALUE;

    private static final class Fault extends RuntimeException {
        private static final long serialVersionUID = 1;
        final int kind;
        final int place;

        Fault(int kind, int place) {
            this.kind = kind;
            this.place = place;
        }
    }

    private static final class Error extends RuntimeException {
        private static final long serialVersionUID = 1;
    }

    private interface Tree {
        long of(Map<String, Long> names);
    }

    private record Token(String kind, String sign, int place) {
    }

    private record Thing(String name, int[] numbers) {
    }

    private record Show(int act, int minute) {
    }

    private static final class Told {
        final List<Thing> acts = new ArrayList<>();
        final List<Thing> guests = new ArrayList<>();
        final List<Thing> grains = new ArrayList<>();
        final List<Show> shows = new ArrayList<>();
        final Map<String, Tree> laws = new TreeMap<>();
        int cough = -1;
        int seed = -1;
        int knots = 0;
        int lines = 0;
    }

    private static final Set<String> LANGUAGE = Set.of("act", "guest", "grain", "show", "cough", "seed", "law", "clap",
            "turn", "grit", "or", "and", "not", "mood", "taste", "hunger", "beside", "speed", "tired", "minute");
    private static final List<String> NAMES = List.of("mood", "taste", "hunger", "beside", "speed", "tired", "minute");

    // ---- reading

    private static final class Parser {
        final List<Token> tokens = new ArrayList<>();
        final Told told = new Told();
        int at = 0;
        int open = 0;

        Parser(String text) {
            int i = 0;
            while (i < text.length()) {
                int from = i;
                char sign = text.charAt(i);
                if (sign == ' ' || sign == '\n') {
                    i++;
                    continue;
                }
                if (sign >= 'a' && sign <= 'z') {
                    while (i < text.length() && text.charAt(i) >= 'a' && text.charAt(i) <= 'z') {
                        i++;
                    }
                    String word = text.substring(from, i);
                    tokens.add(new Token(LANGUAGE.contains(word) ? "word" : word.length() <= 6 ? "name" : "bad", word, from));
                } else if (sign >= '0' && sign <= '9') {
                    while (i < text.length() && text.charAt(i) >= '0' && text.charAt(i) <= '9') {
                        i++;
                    }
                    tokens.add(new Token("number", text.substring(from, i), from));
                } else {
                    i++;
                    String two = i < text.length() ? text.substring(from, i + 1) : "";
                    if (two.equals("<=") || two.equals(">=") || two.equals("<>")) {
                        i++;
                    }
                    String it = text.substring(from, i);
                    tokens.add(new Token("();+-*/<<=>=<>".contains(it) ? "sign" : "bad", it, from));
                }
            }
            tokens.add(new Token("end", "", text.length()));
        }

        Token peek() {
            return tokens.get(at);
        }

        boolean comes(String sign) {
            return (peek().kind.equals("sign") || peek().kind.equals("word")) && peek().sign.equals(sign);
        }

        Token take(String kind) {
            if (!peek().kind.equals(kind)) {
                throw new Fault(1, peek().place);
            }
            return tokens.get(at++);
        }

        void expect(String sign) {
            if (!comes(sign)) {
                throw new Fault(1, peek().place);
            }
            at++;
        }

        void text() {
            while (!peek().kind.equals("end")) {
                line();
                expect(";");
                told.lines++;
            }
        }

        void line() {
            Token word = take("word");
            switch (word.sign) {
                case "act" -> thing(word, told.acts, 6, new int[][] {{0, 9}, {1, 9}});
                case "guest" -> thing(word, told.guests, 6, new int[][] {{0, 9}, {0, 9}});
                case "grain" -> thing(word, told.grains, 4, new int[][] {{0, 99}, {0, 99}, {0, 99}});
                case "show" -> {
                    if (told.shows.size() == 14) {
                        throw new Fault(2, word.place);
                    }
                    Token name = take("name");
                    int act = find(told.acts, name.sign);
                    if (act < 0) {
                        throw new Fault(4, name.place);
                    }
                    told.shows.add(new Show(act, number(0, 99)));
                }
                case "cough" -> {
                    if (told.cough >= 0) {
                        throw new Fault(3, word.place);
                    }
                    told.cough = number(0, 100);
                }
                case "seed" -> {
                    if (told.seed >= 0) {
                        throw new Fault(3, word.place);
                    }
                    told.seed = number(0, 99999);
                }
                case "law" -> law();
                default -> throw new Fault(1, word.place);
            }
        }

        void thing(Token word, List<Thing> list, int most, int[][] bounds) {
            if (list.size() == most) {
                throw new Fault(2, word.place);
            }
            Token name = take("name");
            if (find(list, name.sign) >= 0) {
                throw new Fault(3, name.place);
            }
            int[] numbers = new int[bounds.length];
            for (int i = 0; i < bounds.length; i++) {
                numbers[i] = number(bounds[i][0], bounds[i][1]);
            }
            list.add(new Thing(name.sign, numbers));
        }

        int number(int least, int most) {
            Token token = take("number");
            java.math.BigInteger value = new java.math.BigInteger(token.sign);
            if (value.bitLength() > 30 || value.intValue() < least || value.intValue() > most) {
                throw new Fault(2, token.place);
            }
            return value.intValue();
        }

        void law() {
            Token which = take("word");
            if (!List.of("clap", "turn", "grit").contains(which.sign)) {
                throw new Fault(1, which.place);
            }
            if (told.laws.containsKey(which.sign)) {
                throw new Fault(3, which.place);
            }
            told.laws.put(which.sign, either());
        }

        void knot() {
            told.knots++;
            if (told.knots > 64) {
                throw new Fault(2, peek().place);
            }
        }

        Tree either() {
            Tree tree = both();
            while (comes("or")) {
                knot();
                at++;
                Tree left = tree;
                Tree right = both();
                tree = names -> (left.of(names) != 0 | right.of(names) != 0) ? 1 : 0;
            }
            return tree;
        }

        Tree both() {
            Tree tree = turned();
            while (comes("and")) {
                knot();
                at++;
                Tree left = tree;
                Tree right = turned();
                tree = names -> (left.of(names) != 0 & right.of(names) != 0) ? 1 : 0;
            }
            return tree;
        }

        Tree turned() {
            if (comes("not")) {
                knot();
                at++;
                Tree tree = turned();
                return names -> tree.of(names) == 0 ? 1 : 0;
            }
            return compared();
        }

        Tree compared() {
            Tree left = sum();
            for (String sign : List.of("<", "<=", "=", "<>", ">=", ">")) {
                if (comes(sign)) {
                    knot();
                    at++;
                    Tree right = sum();
                    return names -> {
                        int order = Long.compare(left.of(names), right.of(names));
                        return (order < 0 && sign.contains("<")) || (order == 0 && sign.contains("="))
                                || (order > 0 && sign.contains(">")) ? 1 : 0;
                    };
                }
            }
            return left;
        }

        Tree sum() {
            Tree tree = product();
            while (comes("+") || comes("-")) {
                knot();
                boolean plus = tokens.get(at++).sign.equals("+");
                Tree left = tree;
                Tree right = product();
                tree = names -> checked(big(left.of(names)).add(big(right.of(names)).multiply(big(plus ? 1 : -1))));
            }
            return tree;
        }

        Tree product() {
            Tree tree = part();
            while (comes("*") || comes("/")) {
                knot();
                boolean times = tokens.get(at++).sign.equals("*");
                Tree left = tree;
                Tree right = part();
                tree = times ? names -> checked(big(left.of(names)).multiply(big(right.of(names))))
                        : names -> divided(left.of(names), right.of(names));
            }
            return tree;
        }

        Tree part() {
            Token token = peek();
            if (token.kind.equals("number")) {
                knot();
                long value = number(0, 9999);
                return names -> value;
            }
            if (token.kind.equals("word") && NAMES.contains(token.sign)) {
                knot();
                at++;
                return names -> names.get(token.sign);
            }
            expect("(");
            open++;
            if (open > 8) {
                throw new Fault(2, token.place);
            }
            Tree tree = either();
            expect(")");
            open--;
            return tree;
        }
    }

    private static java.math.BigInteger big(long value) {
        return java.math.BigInteger.valueOf(value);
    }

    private static long checked(java.math.BigInteger value) {
        if (value.abs().compareTo(big(1000000000000L)) > 0) {
            throw new Error();
        }
        return value.longValue();
    }

    private static long divided(long left, long right) {
        if (right == 0) {
            throw new Error();
        }
        return checked(big(left).divide(big(right)));
    }

    private static int find(List<Thing> list, String name) {
        for (int i = 0; i < list.size(); i++) {
            if (list.get(i).name.equals(name)) {
                return i;
            }
        }
        return NONE;
    }

    // ---- minutes

    private static final class World {
        int minute = 0;
        int speed = 0;
        int on = NONE;
        int left = 0;
        int refused = 0;
        int coughed = 0;
        int latest = NONE;
        long number;
        List<Integer> seats = new ArrayList<>();
        int[] tired;
        int[] clapped;
        int[] ground;

        World(Told told) {
            number = Math.max(told.seed, 0);
            tired = new int[told.guests.size()];
            clapped = new int[told.guests.size()];
            ground = new int[told.grains.size()];
            for (int i = 0; i < tired.length; i++) {
                seats.add(i);
            }
        }

        World(World from) {
            minute = from.minute;
            speed = from.speed;
            on = from.on;
            left = from.left;
            refused = from.refused;
            coughed = from.coughed;
            latest = from.latest;
            number = from.number;
            seats = new ArrayList<>(from.seats);
            tired = from.tired.clone();
            clapped = from.clapped.clone();
            ground = from.ground.clone();
        }

        int groundInAll() {
            return java.util.Arrays.stream(ground).sum();
        }
    }

    /** "goes", "drawn", "never", "always"; and what else is otherwise. */
    private static final class Ways {
        String coughs = "goes";
        boolean shows = true;
        int mute = NONE;
        boolean back = true;
        boolean hungry = false;
        int act = NONE;
        int mood = 0;
    }

    private int mood(World w, Ways ways) {
        if (w.on == NONE) {
            return 0;
        }
        return w.on == ways.act ? ways.mood : told.acts.get(w.on).numbers[0];
    }

    private Long law(String which, long... values) {
        if (!told.laws.containsKey(which)) {
            return null;
        }
        Map<String, Long> names = new TreeMap<>();
        for (int i = 0; i < 7; i++) {
            names.put(NAMES.get(i), values[i]);
        }
        try {
            return told.laws.get(which).of(names);
        } catch (Error e) {
            return null;
        }
    }

    private Long clapLaw(World w, int guest, int mood, boolean hungry, int beside) {
        int[] it = told.guests.get(guest).numbers;
        return law("clap", mood, it[0], hungry ? 9 : it[1], beside, w.speed, w.tired[guest], w.minute);
    }

    private int without(int guest, int mood) {
        return 5 - Math.abs(told.guests.get(guest).numbers[0] - mood);
    }

    private int claps(World w, int guest, int mood, boolean hungry, int beside) {
        Long value = clapLaw(w, guest, mood, hungry, beside);
        return value == null ? without(guest, mood) : (int) Math.max(-9, Math.min(9, value));
    }

    private Long stoneLaw(String which, World w, Ways ways, int sum) {
        return law(which, mood(w, ways), 0, 0, sum, w.speed, w.groundInAll(), w.minute);
    }

    private void minute(World w, Ways ways) {
        for (Show show : told.shows) {
            if (ways.shows && show.minute == w.minute) {
                if (w.on == NONE) {
                    w.on = show.act;
                    w.left = told.acts.get(show.act).numbers[1];
                } else {
                    w.refused++;
                }
            }
        }
        int sum = 0;
        w.clapped = new int[w.tired.length];
        if (w.on != NONE) {
            int beside = 0;
            for (int guest : w.seats) {
                int clap = guest == ways.mute ? 0 : claps(w, guest, mood(w, ways), ways.hungry, beside);
                w.clapped[guest] = clap;
                w.tired[guest] += clap > 0 && w.tired[guest] < 9999 ? 1 : 0;
                beside = clap;
                sum += clap;
            }
            if (coughs(w, ways)) {
                w.coughed++;
                sum = 0;
            }
        }
        Long turned = stoneLaw("turn", w, ways, sum);
        w.speed = (int) Math.max(-99, Math.min(99, turned == null ? (w.speed + sum) / 2 : turned));
        if (w.speed > 0) {
            grind(w, ways, sum);
        } else if (w.speed < 0 && ways.back && w.latest != NONE && w.ground[w.latest] > 0) {
            w.ground[w.latest]--;
        }
        if (w.on != NONE) {
            w.left--;
            w.on = w.left == 0 ? NONE : w.on;
        }
        w.minute++;
    }

    private boolean coughs(World w, Ways ways) {
        int cough = Math.max(told.cough, 0);
        switch (ways.coughs) {
            case "goes":
                return cough >= 50;
            case "never":
                return false;
            case "always":
                return true;
            default:
                if (cough == 0 || cough == 100) {
                    return cough == 100;
                }
                w.number = (w.number * 1103515245L + 12345L) % (1L << 31);
                return w.number / 65536 % 100 < cough;
        }
    }

    private int firstGrain(World w, int speed) {
        for (int grain = 0; grain < w.ground.length; grain++) {
            int[] it = told.grains.get(grain).numbers;
            if (w.ground[grain] < it[2] && it[0] <= speed && it[1] >= speed) {
                return grain;
            }
        }
        return NONE;
    }

    private void grind(World w, Ways ways, int sum) {
        int grain = firstGrain(w, w.speed);
        if (grain == NONE) {
            return;
        }
        Long grit = stoneLaw("grit", w, ways, sum);
        long sacks = grit == null ? 1 : Math.max(0, Math.min(9, grit));
        sacks = Math.min(sacks, told.grains.get(grain).numbers[2] - w.ground[grain]);
        if (sacks > 0) {
            w.ground[grain] += (int) sacks;
            w.latest = grain;
        }
    }

    private World after(World from, Ways ways, int n) {
        World w = new World(from);
        for (int i = 0; i < n; i++) {
            minute(w, ways);
        }
        return w;
    }

    // ---- the face

    private final StringBuilder tape = new StringBuilder();
    private int faultKind = 0;
    private int faultPlace = NONE;
    private Told told = new Told();
    private World now = new World(told);
    private World image = null;
    private final List<World> undo = new ArrayList<>();
    private final List<int[]> seen = new ArrayList<>();
    private int knownBy = NONE;

    int feed(int a, int b, int c, int d, int e) {
        if (tape.length() + 20 > 700) {
            return NONE;
        }
        for (int number : new int[] {a, b, c, d, e}) {
            for (int k = 3; k >= 0; k--) {
                tape.append((char) (number >> 8 * k & 255));
            }
        }
        return tape.length();
    }

    int text(int n) {
        if (n < 0 || n > tape.length()) {
            return -2;
        }
        String text = tape.substring(0, n);
        tape.setLength(0);
        faultKind = 0;
        faultPlace = NONE;
        try {
            Parser parser = new Parser(text);
            parser.text();
            told = parser.told;
        } catch (Fault fault) {
            faultKind = fault.kind;
            faultPlace = fault.place;
            return NONE;
        }
        now = new World(told);
        image = null;
        undo.clear();
        seen.clear();
        knownBy = NONE;
        return told.lines;
    }

    int fault(int what) {
        return what == 0 ? faultKind : what == 1 ? faultPlace : NONE;
    }

    int named(int what, int letters) {
        List<Thing> list = what == 0 ? told.acts : what == 1 ? told.guests : what == 2 ? told.grains : List.of();
        for (int i = 0; i < list.size(); i++) {
            String name = list.get(i).name;
            int code = 0;
            for (int k = 0; k < name.length(); k++) {
                code |= name.charAt(k) - 96 << 25 - 5 * k;
            }
            if (code == letters) {
                return i;
            }
        }
        return NONE;
    }

    private boolean isAct(int act) {
        return act >= 0 && act < told.acts.size();
    }

    private boolean isGuest(int guest) {
        return guest >= 0 && guest < told.guests.size();
    }

    private boolean isGrain(int grain) {
        return grain >= 0 && grain < told.grains.size();
    }

    int guest(int guest, int what) {
        if (!isGuest(guest)) {
            return 1001;
        }
        return switch (what) {
            case 0, 1 -> told.guests.get(guest).numbers[what];
            case 2 -> now.seats.indexOf(guest);
            case 3 -> now.tired[guest];
            case 4 -> now.clapped[guest];
            default -> 1002;
        };
    }

    int act(int act, int what) {
        if (!isAct(act) || what < 0 || what > 2) {
            return NONE;
        }
        return what < 2 ? told.acts.get(act).numbers[what] : now.on == act ? now.left : 0;
    }

    int grain(int grain, int what) {
        if (!isGrain(grain) || what < 0 || what > 3) {
            return NONE;
        }
        int[] it = told.grains.get(grain).numbers;
        return what < 2 ? it[what] : what == 2 ? it[2] - now.ground[grain] : now.ground[grain];
    }

    long law(int what, int guest) {
        Long value = null;
        if (what == 0 && isGuest(guest)) {
            value = clapLaw(now, guest, mood(now, new Ways()), false, 0);
        } else if (what == 1 || what == 2) {
            value = stoneLaw(what == 1 ? "turn" : "grit", now, new Ways(), 0);
        }
        return value == null ? Long.MIN_VALUE : value;
    }

    private void done() {
        undo.add(new World(now));
        if (undo.size() > 20) {
            undo.remove(0);
        }
    }

    int stage(int act) {
        if (!isAct(act)) {
            return NONE;
        }
        if (now.on != NONE) {
            return -2;
        }
        done();
        now.on = act;
        now.left = told.acts.get(act).numbers[1];
        return now.left;
    }

    int change(int one, int other) {
        if (!isGuest(one) || !isGuest(other) || one == other) {
            return NONE;
        }
        done();
        java.util.Collections.swap(now.seats, now.seats.indexOf(one), now.seats.indexOf(other));
        return now.seats.indexOf(one);
    }

    int push(int by) {
        if (by < -99 || by > 99 || by == 0) {
            return LOW;
        }
        done();
        now.speed = Math.max(-99, Math.min(99, now.speed + by));
        return now.speed;
    }

    private Ways drawn() {
        Ways ways = new Ways();
        ways.coughs = "drawn";
        return ways;
    }

    int go(int n) {
        if (n < 0 || n > 200 || now.minute + n > 9000) {
            return NONE;
        }
        now = after(now, drawn(), n);
        if (n > 0) {
            undo.clear();
        }
        return now.minute;
    }

    int ahead(int n, int what, int i) {
        boolean such = what == 0 || what == 2 || what == 3 || what == 1 && isGrain(i) || what == 4 && isGuest(i);
        if (n < 0 || n > 200 || !such) {
            return LOW;
        }
        World w = after(now, new Ways(), n);
        return switch (what) {
            case 0 -> w.groundInAll();
            case 1 -> w.ground[i];
            case 2 -> w.speed;
            case 3 -> w.refused - now.refused;
            default -> w.tired[i];
        };
    }

    int flour(int sacks) {
        if (sacks < 0 || sacks > 999) {
            return NONE;
        }
        World w = now;
        for (int n = 0; n <= 199; n++) {
            if (w.groundInAll() >= sacks) {
                return n;
            }
            w = after(w, new Ways(), 1);
        }
        return -2;
    }

    private static void orders(List<Integer> order, int size, List<List<Integer>> all) {
        if (order.size() == size) {
            all.add(new ArrayList<>(order));
            return;
        }
        for (int i = 0; i < size; i++) {
            if (!order.contains(i)) {
                order.add(i);
                orders(order, size, all);
                order.remove(order.size() - 1);
            }
        }
    }

    private static List<List<Integer>> orders(int size) {
        List<List<Integer>> all = new ArrayList<>();
        orders(new ArrayList<>(), size, all);
        return all;
    }

    int bill(int what) {
        if (what < 0 || what > 4) {
            return NONE;
        }
        int best = LOW;
        List<Integer> order = List.of();
        Ways ways = new Ways();
        ways.shows = false;
        for (List<Integer> other : orders(Math.min(4, told.acts.size()))) {
            World w = new World(now);
            for (int act : other) {
                w.on = act;
                w.left = told.acts.get(act).numbers[1];
                w = after(w, ways, w.left);
            }
            if (w.groundInAll() > best) {
                best = w.groundInAll();
                order = other;
            }
        }
        return what == 4 ? best : what < order.size() ? order.get(what) : -2;
    }

    int seats(int act, int what) {
        if (!isAct(act) || what < 0 || what > 6) {
            return LOW;
        }
        int best = LOW;
        List<Integer> order = List.of();
        for (List<Integer> other : orders(told.guests.size())) {
            int sum = 0;
            int beside = 0;
            for (int guest : other) {
                beside = claps(now, guest, told.acts.get(act).numbers[0], false, beside);
                sum += beside;
            }
            if (sum > best) {
                best = sum;
                order = other;
            }
        }
        return what == 6 ? best : what < order.size() ? order.get(what) : -2;
    }

    int enough(int act, int sum) {
        if (!isAct(act) || sum < 1 || sum > 99) {
            return NONE;
        }
        for (int guests = 0; guests <= told.guests.size(); guests++) {
            for (int bits = 0; bits < 64 && bits < 1 << told.guests.size(); bits++) {
                int claps = 0;
                for (int guest = 0; guest < told.guests.size(); guest++) {
                    claps += (bits & 1 << guest) != 0 ? without(guest, told.acts.get(act).numbers[0]) : 0;
                }
                if (Integer.bitCount(bits) == guests && claps >= sum) {
                    return bits;
                }
            }
        }
        return -2;
    }

    int span(int grain) {
        if (!isGrain(grain)) {
            return NONE;
        }
        int speeds = 0;
        for (int speed = 1; speed <= 99; speed++) {
            speeds += firstGrain(now, speed) == grain ? 1 : 0;
        }
        return speeds;
    }

    int pushFor(int n, int sacks) {
        if (n < 0 || n > 60 || sacks < 1 || sacks > 99) {
            return NONE;
        }
        for (int speed = 0; speed <= 99; speed++) {
            World w = new World(now);
            w.speed = speed;
            if (after(w, new Ways(), n).groundInAll() - now.groundInAll() >= sacks) {
                return speed;
            }
        }
        return -2;
    }

    int silence(int n) {
        if (n < 0 || n > 200) {
            return NONE;
        }
        StringBuilder speeds = new StringBuilder("x");
        World w = now;
        for (int i = 0; i < n; i++) {
            w = after(w, new Ways(), 1);
            speeds.append(w.speed == 0 ? '0' : 'x');
        }
        int most = 0;
        for (String run : speeds.toString().split("x")) {
            most = Math.max(most, run.length());
        }
        return most;
    }

    /** Whether who is to add wins, and by what at least: 0 if he can't. */
    private static int winsBy(int speed, int high) {
        boolean[] wins = new boolean[high + 5 - speed];
        int by = 0;
        for (int at = high; at >= speed; at--) {
            by = 0;
            for (int add = 3; add >= 1; add--) {
                if (at + add <= high && !wins[at + add - speed]) {
                    by = add;
                }
            }
            wins[at - speed] = by != 0;
        }
        return by;
    }

    int game(int grain, int what) {
        if (!isGrain(grain) || what < 0 || what > 1) {
            return NONE;
        }
        int high = told.grains.get(grain).numbers[1];
        if (now.speed > high) {
            return what == 0 ? 2 : -2;
        }
        int by = winsBy(now.speed, high);
        return what == 0 ? (by == 0 ? 1 : 0) : by == 0 ? -2 : by;
    }

    private List<Integer> restsOf(int one, int other, int act) {
        List<Integer> rests = new ArrayList<>();
        int mood = told.acts.get(act).numbers[0];
        int[][][] has = new int[2][2][2];
        int[] guests = {one, other};
        for (int i = 0; i < 2; i++) {
            int without = without(guests[i], mood);
            int hunger = told.guests.get(guests[i]).numbers[1];
            has[i][0][0] = without + 2 - hunger / 3;
            has[i][0][1] = without - hunger / 2;
            has[i][1][0] = 1;
            has[i][1][1] = 0;
        }
        for (int a = 0; a < 2; a++) {
            for (int b = 0; b < 2; b++) {
                if (has[0][1 - a][b] <= has[0][a][b] && has[1][1 - b][a] <= has[1][b][a]) {
                    rests.add(10 * a + b);
                }
            }
        }
        return rests;
    }

    int rests(int one, int other, int act) {
        return isGuest(one) && isGuest(other) && one != other && isAct(act) ? restsOf(one, other, act).size() : NONE;
    }

    int rest(int one, int other, int act, int k) {
        if (rests(one, other, act) == NONE || k < 0) {
            return NONE;
        }
        List<Integer> rests = restsOf(one, other, act);
        return k < rests.size() ? rests.get(k) : -2;
    }

    int dearest(int guest) {
        if (!isGuest(guest)) {
            return NONE;
        }
        int best = -2;
        int most = LOW;
        for (int act = 0; act < told.acts.size(); act++) {
            int claps = without(guest, told.acts.get(act).numbers[0]);
            if (claps > most) {
                most = claps;
                best = act;
            }
        }
        return best;
    }

    long quiet(int n, int what) {
        if (n < 0 || n > 6 || what < 0 || what > 1) {
            return NONE;
        }
        java.math.BigInteger above = big(100 - Math.max(told.cough, 0)).pow(n);
        java.math.BigInteger below = big(100).pow(n);
        java.math.BigInteger common = above.gcd(below);
        return (what == 0 ? above : below).divide(common).longValue();
    }

    int see(int minutes, int sacks, boolean atLeast) {
        if (minutes < 1 || minutes > 60 || sacks < 0 || sacks > 999 || seen.size() == 24) {
            return NONE;
        }
        seen.add(new int[] {minutes, sacks, atLeast ? 1 : 0});
        return seen.size() - 1;
    }

    int strike(int which) {
        if (which < 0 || which >= seen.size() || seen.size() == 24) {
            return NONE;
        }
        seen.add(new int[] {which});
        return seen.size() - 1;
    }

    boolean known(int n) {
        if (n < -1 || n > seen.size()) {
            return false;
        }
        knownBy = n;
        return true;
    }

    private boolean counts(int which, int n) {
        for (int i = which + 1; i < n; i++) {
            if (seen.get(i).length == 1 && seen.get(i)[0] == which && counts(i, n)) {
                return false;
            }
        }
        return true;
    }

    private World fromText(int act, int mood, int n) {
        Ways ways = new Ways();
        ways.act = act;
        ways.mood = mood;
        return after(new World(told), ways, n);
    }

    int moods(int act) {
        if (!isAct(act)) {
            return NONE;
        }
        int n = knownBy == NONE ? seen.size() : knownBy;
        int bits = 0;
        for (int mood = 0; mood <= 9; mood++) {
            boolean all = true;
            for (int i = 0; i < n; i++) {
                int[] it = seen.get(i);
                if (it.length == 3 && counts(i, n)) {
                    all &= fromText(act, mood, it[0]).groundInAll() >= it[1] == (it[2] == 1);
                }
            }
            bits |= all ? 1 << mood : 0;
        }
        return bits;
    }

    int ask(int act, int what) {
        if (!isAct(act) || what < 0 || what > 1) {
            return NONE;
        }
        int bits = moods(act);
        int best = 1;
        int least = bits == 0 ? 0 : 99;
        for (int n = 1; n <= 60 && bits != 0; n++) {
            Map<Integer, Integer> answers = new TreeMap<>();
            for (int mood = 0; mood <= 9; mood++) {
                if ((bits & 1 << mood) != 0) {
                    answers.merge(fromText(act, mood, n).groundInAll(), 1, Integer::sum);
                }
            }
            int worst = java.util.Collections.max(answers.values());
            if (worst < least) {
                least = worst;
                best = n;
            }
        }
        return what == 0 ? best : least;
    }

    int chance(int seed, int n, int sacks) {
        if (seed < 0 || n < 1 || n > 99 || sacks < 0 || sacks > 999) {
            return NONE;
        }
        int times = 0;
        long number = seed;
        for (int i = 0; i < 10; i++) {
            World w = new World(now);
            w.number = number;
            w = after(w, drawn(), n);
            number = w.number;
            times += w.groundInAll() >= sacks ? 1 : 0;
        }
        return times;
    }

    int tried(int what, int i, int n) {
        if (what < 0 || what > 4 || n < 0 || n > 200 || (what == 2 ? !isGuest(i) : i != 0)) {
            return NONE;
        }
        Ways ways = new Ways();
        ways.coughs = what == 0 ? "never" : what == 1 ? "always" : "goes";
        ways.mute = what == 2 ? i : NONE;
        ways.back = what != 3;
        ways.hungry = what == 4;
        return after(now, ways, n).groundInAll();
    }

    int undo() {
        if (undo.isEmpty()) {
            return NONE;
        }
        now = undo.remove(undo.size() - 1);
        return undo.size();
    }

    int keep() {
        image = new World(now);
        return now.minute;
    }

    int back() {
        if (image == null) {
            return NONE;
        }
        now = new World(image);
        undo.clear();
        return now.minute;
    }

    int count(int what) {
        int sacks = 0;
        for (Thing grain : told.grains) {
            sacks += grain.numbers[2];
        }
        return switch (what) {
            case 0 -> told.acts.size();
            case 1 -> told.guests.size();
            case 2 -> told.grains.size();
            case 3 -> told.shows.size();
            case 4 -> told.knots;
            case 5 -> now.minute;
            case 6 -> now.speed;
            case 7 -> sacks - now.groundInAll();
            case 8 -> now.groundInAll();
            case 9 -> now.refused;
            case 10 -> now.coughed;
            case 11 -> java.util.Arrays.stream(now.tired).sum();
            case 12 -> now.on == NONE ? -2 : now.on;
            case 13 -> seen.size();
            case 14 -> knownBy == NONE ? seen.size() : knownBy;
            case 15 -> undo.size();
            default -> LOW;
        };
    }

    /** Letters of all names told, so that a test can ask for them. */
    Set<Integer> letters() {
        Set<Integer> all = new HashSet<>();
        for (List<Thing> list : List.of(told.acts, told.guests, told.grains)) {
            for (Thing thing : list) {
                int code = 0;
                for (int k = 0; k < 6; k++) {
                    code = code * 32 + (k < thing.name.length() ? thing.name.charAt(k) - 96 : 0);
                }
                all.add(code);
            }
        }
        return all;
    }
}
