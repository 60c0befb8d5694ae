import java.util.ArrayList;
import java.util.List;
import java.util.Random;

/** All promises: random texts, sound and spoilt, and random calls, answered as the model does. */
public final class ModelTest {
    private static final String[] WORDS = {"act", "guest", "grain", "show", "cough", "seed", "law", "clap", "turn", "grit",
        "or", "and", "not", "mood", "taste", "hunger", "beside", "speed", "tired", "minute", "a", "bc", "toolong", "abcdef"};
    private static final String[] JOINTS = {" or ", " and ", "<", "<=", "=", "<>", ">=", ">", "+", "-", "*", "/"};

    private final Due due = new Due();
    private final Random dice;
    private ClapMill mill = new ClapMill();
    private Model model = new Model();

    private ModelTest(long seed) {
        dice = new Random(seed);
    }

    public static void main(String[] args) {
        int runs = args.length > 0 ? Integer.parseInt(args[0]) : 500;
        long seed = args.length > 1 ? Long.parseLong(args[1]) : 20261118;
        ModelTest test = new ModelTest(seed);
        for (int run = 0; run < runs; run++) {
            test.run();
        }
        for (int text = 0; text < 20 * runs; text++) {
            test.tellBoth(test.spoilt(test.text()));
        }
        test.due.end();
    }

    private void run() {
        mill = new ClapMill();
        model = new Model();
        int calls = 60 + dice.nextInt(60);
        tellBoth(text());
        for (int i = 0; i < calls; i++) {
            call(dice.nextInt(40));
        }
    }

    // ---- texts

    private int upTo(int most) {
        return dice.nextInt(most + 1);
    }

    private String text() {
        List<String> lines = new ArrayList<>();
        int acts = 1 + upTo(dice.nextInt(4) == 0 ? 5 : 2);
        int guests = upTo(dice.nextInt(8) == 0 ? 6 : 3);
        int grains = upTo(4);
        for (int i = 0; i < acts; i++) {
            lines.add("act " + (char) ('a' + i) + " " + upTo(9) + " " + (1 + upTo(8)) + ";");
        }
        for (int i = 0; i < guests; i++) {
            lines.add("guest " + (char) ('a' + i) + " " + upTo(9) + " " + upTo(9) + ";");
        }
        for (int i = 0; i < grains; i++) {
            int low = upTo(9);
            lines.add("grain " + (char) ('a' + i) + " " + low + " " + (low + upTo(dice.nextBoolean() ? 5 : 80)) + " " + upTo(40) + ";");
        }
        int shows = upTo(5);
        for (int i = 0; i < shows; i++) {
            lines.add("show " + (char) ('a' + dice.nextInt(acts)) + " " + upTo(25) + ";");
        }
        if (dice.nextBoolean()) {
            lines.add("cough " + (dice.nextInt(5) == 0 ? 100 * upTo(1) : upTo(100)) + ";");
            lines.add("seed " + upTo(99999) + ";");
        }
        for (String law : new String[] {"clap", "turn", "grit"}) {
            if (dice.nextInt(3) > 0) {
                lines.add("law " + law + " " + phrase(3, law) + ";");
            }
        }
        return String.join(dice.nextBoolean() ? "" : "\n", lines);
    }

    private String phrase(int depth, String law) {
        if (depth == 3 && dice.nextInt(2) == 0) {
            return switch (law) {
                case "clap" -> "taste - mood + " + upTo(6) + " + beside / 3 - tired / " + upTo(4);
                case "turn" -> "(speed + beside * " + upTo(3) + ") / " + (1 + upTo(2));
                default -> "1 + speed / " + upTo(9);
            };
        }
        if (depth == 0 || dice.nextInt(5) == 0) {
            return dice.nextBoolean() ? "" + upTo(dice.nextInt(9) == 0 ? 9999 : 9) : WORDS[13 + dice.nextInt(7)];
        }
        if (dice.nextInt(9) == 0) {
            return "(not " + phrase(depth - 1, law) + ")";
        }
        String joint = JOINTS[dice.nextInt(12)];
        String left = phrase(depth - 1, law);
        String right = phrase(depth - 1, law);
        return switch (dice.nextInt(4)) {
            case 0 -> "(" + left + ")" + joint + "(" + right + ")";
            case 1 -> "(" + left + joint + right + ")";
            case 2 -> "(" + left + ")" + joint + right;
            default -> left + joint + right;
        };
    }

    /** A text with a few signs or words put in, taken out or put in place of others. */
    private String spoilt(String text) {
        StringBuilder spoilt = new StringBuilder(text);
        int times = upTo(3);
        for (int i = 0; i < times; i++) {
            int at = dice.nextInt(spoilt.length() + 1);
            int end = Math.min(spoilt.length(), at + upTo(2));
            String by = switch (dice.nextInt(6)) {
                case 0 -> "";
                case 1 -> " " + WORDS[dice.nextInt(WORDS.length)] + " ";
                case 2 -> "" + upTo(12000);
                case 3 -> "" + "();+-*/<>= \n#A".charAt(dice.nextInt(14));
                case 4 -> JOINTS[dice.nextInt(12)];
                default -> "" + (char) dice.nextInt(256);
            };
            spoilt.replace(at, end, by);
        }
        if (dice.nextInt(9) == 0) {
            spoilt.setLength(dice.nextInt(spoilt.length() + 1));
        }
        return spoilt.toString();
    }

    private void tellBoth(String text) {
        byte[] bytes = text.getBytes(java.nio.charset.StandardCharsets.ISO_8859_1);
        byte[] tape = java.util.Arrays.copyOf(bytes, (bytes.length + 19) / 20 * 20);
        for (int i = 0; i < tape.length; i += 20) {
            int[] w = new int[5];
            for (int k = 0; k < 5; k++) {
                w[k] = Due.word(tape, i + 4 * k);
            }
            due.is("feed", mill.feed(w[0], w[1], w[2], w[3], w[4]), model.feed(w[0], w[1], w[2], w[3], w[4]));
        }
        due.is("text '" + text + "'", mill.text(bytes.length), model.text(bytes.length));
        due.is("fault of '" + text + "'", mill.fault(0), model.fault(0));
        due.is("place of '" + text + "'", mill.fault(1), model.fault(1));
        // What did not fit on the tape must not stay for the next text.
        due.is("text(0)", bytes.length > 700 ? mill.text(0) : 0, bytes.length > 700 ? model.text(0) : 0);
    }

    // ---- calls

    private static final int[] WILD = {Integer.MIN_VALUE, Integer.MIN_VALUE + 1, -1000000, -2, 1 << 16, 1 << 30, Integer.MAX_VALUE - 1,
        Integer.MAX_VALUE};

    /** A number from one below 0 to one above the most, now and then far beyond, so that wrong ones come, too. */
    private int about(int most) {
        if (dice.nextInt(60) == 0) {
            return WILD[dice.nextInt(WILD.length)];
        }
        return dice.nextInt(12) == 0 ? (dice.nextBoolean() ? -1 : most + 1) : upTo(most);
    }

    private void call(int which) {
        int a = about(3);
        int b = about(3);
        int n = about(dice.nextInt(9) == 0 ? 200 : 20);
        switch (which) {
            case 0 -> tellBoth(spoilt(text()));
            case 1 -> {
                int letters = model.letters().stream().skip(upTo(3)).findFirst().orElse(dice.nextInt());
                due.is("named", mill.named(a, letters), model.named(a, letters));
            }
            case 2, 3 -> due.is("guest", Due.guest(mill, a, b = about(4)), model.guest(a, b));
            case 4 -> due.is("act", mill.act(a, b), model.act(a, b));
            case 5 -> due.is("grain", mill.grain(a, b), model.grain(a, b));
            case 6 -> due.is("law", mill.law(b, a), model.law(b, a));
            case 7, 8 -> due.is("stage", mill.stage(a), model.stage(a));
            case 9 -> due.is("change", mill.change(a, b), model.change(a, b));
            case 10, 11 -> {
                int by = dice.nextInt(205) - 102;
                due.is("push", mill.push(by), model.push(by));
            }
            case 12, 13, 14 -> due.is("go", mill.go(n), model.go(n));
            case 15, 16 -> due.is("ahead", mill.ahead(n, b = about(4), a), model.ahead(n, b, a));
            case 17 -> {
                int sacks = about(dice.nextInt(9) == 0 ? 999 : 60);
                due.is("flour", mill.flour(sacks), model.flour(sacks));
            }
            case 18 -> due.is("bill", mill.bill(b = about(4)), model.bill(b));
            case 19 -> due.is("seats", mill.seats(a, b = about(6)), model.seats(a, b));
            case 20 -> due.is("enough", mill.enough(a, b = about(20)), model.enough(a, b));
            case 21 -> due.is("span", mill.span(a), model.span(a));
            case 22 -> due.is("pushFor", mill.pushFor(n = about(20), b = about(20)), model.pushFor(n, b));
            case 23 -> due.is("silence", mill.silence(n), model.silence(n));
            case 24 -> due.is("game", mill.game(a, b = about(1)), model.game(a, b));
            case 25 -> due.is("rests", mill.rests(a, b, n = about(2)), model.rests(a, b, n));
            case 26 -> due.is("rest", mill.rest(a, b, 0, n = about(3)), model.rest(a, b, 0, n));
            case 27 -> due.is("dearest", mill.dearest(a), model.dearest(a));
            case 28 -> due.is("quiet", mill.quiet(n = about(6), b = about(1)), model.quiet(n, b));
            default -> callOnSeen(which, a, b, n);
        }
        countAll();
    }

    private void callOnSeen(int which, int a, int b, int n) {
        switch (which) {
            case 29 -> {
                int minutes = about(60);
                int sacks = about(dice.nextInt(9) == 0 ? 999 : 30);
                boolean atLeast = dice.nextBoolean();
                due.is("see", mill.see(minutes, sacks, atLeast), model.see(minutes, sacks, atLeast));
            }
            case 30 -> due.is("strike", mill.strike(n), model.strike(n));
            case 31 -> {
                int by = about(6) - 1;
                due.is("known", mill.known(by), model.known(by));
            }
            case 32, 33 -> due.is("moods", mill.moods(a), model.moods(a));
            case 34 -> {
                int what = about(1);
                due.is("ask", mill.ask(a, what), model.ask(a, what));
            }
            case 35 -> {
                int seed = dice.nextInt();
                int sacks = about(30);
                due.is("chance", mill.chance(seed, n, sacks), model.chance(seed, n, sacks));
            }
            case 36 -> {
                int what = about(4);
                int i = what == 2 ? a : about(9) / 5;
                due.is("tried", mill.tried(what, i, n), model.tried(what, i, n));
            }
            case 37 -> due.is("undo", mill.undo(), model.undo());
            case 38 -> due.is("keep", mill.keep(), model.keep());
            default -> due.is("back", mill.back(), model.back());
        }
    }

    private void countAll() {
        for (int what = -1; what <= 16; what++) {
            due.is("count(" + what + ")", mill.count(what), model.count(what));
        }
        for (int guest = 0; guest < 6; guest++) {
            for (int what = 2; what <= 4; what++) {
                due.is("guest " + guest + ", " + what, Due.guest(mill, guest, what), model.guest(guest, what));
            }
        }
    }
}
