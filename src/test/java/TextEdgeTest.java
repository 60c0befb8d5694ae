import java.nio.charset.StandardCharsets;

/**
 * Promises 1 to 5 and the document's "Terms": each limit of a text and of the tape, at it and a step to
 * each side of it.
 */
public final class TextEdgeTest {
    private static final int NONE = ClapMill.NONE;
    private static final int BLANKS = 0x20202020;
    private static final Due due = new Due();

    private static final String LANGUAGE = "act guest grain show cough seed law clap turn grit or and not "
            + "mood taste hunger beside speed tired minute";

    public static void main(String[] args) {
        newObject();
        tapeIsFull();
        tapeOfSevenHundredBytesIsRead();
        highestByteFirst();
        textOfTooMany();
        textOfNone();
        tapeIsEmptyBehindText();
        faultOfTheLatestText();
        numbersOfLines();
        numbersAreKept();
        numbersWithoutWrapAround();
        numberBelowZero();
        sixOfAKind();
        lettersOfWords();
        wordsOfTheLanguage();
        namesOfTheirKind();
        toldAlready();
        actToldAhead();
        blanks();
        tokensWithoutBlanks();
        signsBehindSigns();
        bracketsOpen();
        knotsOfAll();
        knotsOfEachKind();
        firstFaultAlongTheText();
        leastFaultOfAPlace();
        moreMustCome();
        grammarOfPhrases();
        ranksOfJoints();
        nothingOfAnEarlierText();
        nothingOfAFaultyText();
        lettersOfNames();
        due.end();
    }

    private static void good(String text, int lines) {
        ClapMill x = new ClapMill();
        due.is("lines of '" + text + "'", Due.tell(x, text), lines);
        due.is("fault of '" + text + "'", x.fault(0), 0);
        due.is("place of '" + text + "'", x.fault(1), NONE);
    }

    private static void bad(String text, int kind, int place) {
        ClapMill x = new ClapMill();
        due.is("text '" + text + "'", Due.tell(x, text), NONE);
        due.is("fault of '" + text + "'", x.fault(0), kind);
        due.is("place of '" + text + "'", x.fault(1), place);
    }

    // ---- promise 1: "A TEXT without LINES; an empty TAPE."

    private static void newObject() {
        for (int what = 0; what <= 15; what++) {
            due.is("new: count(" + what + ")", new ClapMill().count(what), what == 12 ? -2 : 0);
        }
        due.is("new: the tape is empty", new ClapMill().text(1), -2);
        due.is("new: the first bytes", new ClapMill().feed(0, 0, 0, 0, 0), 20);
        due.is("new: no guest", Due.guest(new ClapMill(), 0, 0), 1001);
        due.is("new: no act", new ClapMill().act(0, 0), NONE);
        due.is("new: no grain", new ClapMill().grain(0, 0), NONE);
        for (int what = 0; what <= 2; what++) {
            due.is("new: no law " + what, new ClapMill().law(what, 0), Long.MIN_VALUE);
            due.is("new: no name " + what, new ClapMill().named(what, 0), NONE);
        }
        due.is("new: no coughs", new ClapMill().quiet(6, 0), 1);
        due.is("new: no image", new ClapMill().back(), NONE);
        due.is("new: nothing to undo", new ClapMill().undo(), NONE);
    }

    // ---- promise 2: "how many it has; NONE, and none come, if it would have more than 700."

    private static void tapeIsFull() {
        ClapMill x = new ClapMill();
        for (int i = 1; i <= 34; i++) {
            due.is("feed " + i, x.feed(BLANKS, BLANKS, BLANKS, BLANKS, BLANKS), 20 * i);
        }
        due.is("680 and 20 are 700", x.feed(BLANKS, BLANKS, BLANKS, BLANKS, BLANKS), 700);
        due.is("more than 700", x.feed(-1, -1, -1, -1, -1), NONE);
        due.is("more than 700 again", x.feed(-1, -1, -1, -1, -1), NONE);
        due.is("none came", x.text(701), -2);
        due.is("none came in place of others", x.text(700), 0);
        due.is("room again", x.feed(BLANKS, BLANKS, BLANKS, BLANKS, BLANKS), 20);
    }

    private static void tapeOfSevenHundredBytesIsRead() {
        String end = "cough 7;";
        due.is("a line that ends with the last byte", Due.tell(new ClapMill(), " ".repeat(700 - end.length()) + end), 1);
        String open = "cough 77";
        ClapMill x = new ClapMill();
        due.is("a line without its end", Due.tell(x, " ".repeat(700 - open.length()) + open), NONE);
        due.is("the length", x.fault(1), 700);
        ClapMill y = new ClapMill();
        due.is("a number of 700 digits", Due.tell(y, "9".repeat(700)), NONE);
        due.is("it can't stand there", y.fault(0), 1);
        String digits = "seed " + "0".repeat(693) + "7;";
        due.is("a number of 694 digits", Due.tell(new ClapMill(), digits), 1);
        ClapMill z = new ClapMill();
        due.is("a word of 700 letters", Due.tell(z, "a".repeat(700)), NONE);
        due.is("at its place", z.fault(1), 0);
    }

    private static void highestByteFirst() {
        ClapMill x = new ClapMill();
        x.feed('c' << 24 | 'o' << 16 | 'u' << 8 | 'g', 'h' << 24 | ' ' << 16 | '4' << 8 | '2',
                ';' << 24 | ' ' << 16 | ' ' << 8 | ' ', 's' << 24 | 'e' << 16 | 'e' << 8 | 'd',
                ' ' << 24 | '1' << 16 | ';' << 8 | ' ');
        due.is("two lines", x.text(20), 2);
        due.is("cough 42", x.quiet(1, 0), 29);
        for (int at = 0; at < 20; at++) {
            int[] words = {BLANKS, BLANKS, BLANKS, BLANKS, BLANKS};
            words[at / 4] |= 0x80 << 24 - 8 * (at % 4);
            x.feed(words[0], words[1], words[2], words[3], words[4]);
            due.is("a byte above 127 at " + at, x.text(20), NONE);
            due.is("its place", x.fault(1), at);
        }
    }

    // ---- promise 3

    private static void textOfTooMany() {
        int[] wrong = {-1, -2, -20, 41, 42, 60, 700, 701, Integer.MAX_VALUE, Integer.MIN_VALUE};
        for (int n : wrong) {
            ClapMill x = Due.mill("act a 3 4;");
            x.feed(0x61637420, 0x62203520, 0x363b2020, BLANKS, BLANKS); // act b 5 6;
            x.feed(BLANKS, BLANKS, BLANKS, BLANKS, BLANKS);
            due.is("text(" + n + ")", x.text(n), -2);
            due.is("the text stays", x.act(0, 0), 3);
            due.is("the tape stays", x.feed(BLANKS, BLANKS, BLANKS, BLANKS, BLANKS), 60);
            due.is("all 60 bytes", x.text(60), 1);
            due.is("the new text", x.act(0, 0), 5);
        }
        ClapMill y = new ClapMill();
        y.feed(BLANKS, BLANKS, BLANKS, BLANKS, BLANKS);
        due.is("one too many", y.text(21), -2);
        due.is("just so many", y.text(20), 0);
        due.is("none left", y.text(1), -2);
    }

    private static void textOfNone() {
        ClapMill x = Due.mill("act a 3 4;");
        x.feed(-1, -1, -1, -1, -1);
        due.is("no bytes of twenty", x.text(0), 0);
        due.is("a text without lines", x.count(0), 0);
        due.is("the tape is empty then", x.text(1), -2);
        due.is("no bytes of none", x.text(0), 0);
    }

    private static void tapeIsEmptyBehindText() {
        for (String text : new String[] {"cough 1;", "cough ;"}) {
            ClapMill x = new ClapMill();
            for (int i = 0; i < 34; i++) {
                x.feed(BLANKS, BLANKS, BLANKS, BLANKS, BLANKS);
            }
            x.text(3);
            Due.tell(x, text);
            due.is("empty behind '" + text + "'", x.text(1), -2);
            due.is("twenty bytes behind '" + text + "'", x.feed(BLANKS, BLANKS, BLANKS, BLANKS, BLANKS), 20);
            due.is("those alone", x.text(20), 0);
        }
        ClapMill y = new ClapMill();
        y.feed(0x73656564, 0x20313b78, -1, -1, -1); // seed 1;x
        due.is("what is behind the first bytes isn't read", y.text(7), 1);
        y.feed(0x73656564, 0x20313b78, -1, -1, -1);
        due.is("a byte more", y.text(8), NONE);
        due.is("its place", y.fault(1), 7);
    }

    // ---- promise 4: "Of the latest text() that was not -2, what 0: its FAULT (0), 1: its place (NONE without)."

    private static void faultOfTheLatestText() {
        ClapMill x = new ClapMill();
        int[] others = {-1, 2, 3, Integer.MIN_VALUE, Integer.MAX_VALUE};
        due.is("no text: fault", x.fault(0), 0);
        due.is("no text: place", x.fault(1), NONE);
        Due.tell(x, "act a 1 1;act a 1 1;");
        for (int what : others) {
            due.is("fault(" + what + ")", x.fault(what), NONE);
        }
        due.is("a fault", x.fault(0), 3);
        due.is("its place", x.fault(1), 14);
        due.is("-2", x.text(-1), -2);
        due.is("-2 is not looked at", x.fault(0), 3);
        due.is("its place neither", x.fault(1), 14);
        Due.tell(x, "show b 1;");
        due.is("another fault", x.fault(0), 4);
        due.is("its place", x.fault(1), 5);
        Due.tell(x, "");
        due.is("without a fault", x.fault(0), 0);
        due.is("without a place", x.fault(1), NONE);
        due.is("-2 again", x.text(1), -2);
        due.is("without a fault still", x.fault(0), 0);
    }

    // ---- "2 too much (at it): a number beyond what is said"

    private static final String[] NUMBERED = {"act a # 1;", "act a 1 #;", "guest a # 1;", "guest a 1 #;", "grain a # 1 1;",
        "grain a 1 # 1;", "grain a 1 1 #;", "act a 1 1;show a #;", "cough #;", "seed #;", "law clap #;", "law turn 1+#;",
        "law grit (#);"};
    private static final int[] LEAST = {0, 1, 0, 0, 0, 0, 0, 0, 0, 0, 0, 0, 0};
    private static final int[] MOST = {9, 9, 9, 9, 99, 99, 99, 99, 100, 99999, 9999, 9999, 9999};

    private static void numbersOfLines() {
        for (int i = 0; i < NUMBERED.length; i++) {
            String text = NUMBERED[i];
            int lines = text.contains("show") ? 2 : 1;
            int place = text.indexOf('#');
            good(text.replace("#", "" + LEAST[i]), lines);
            good(text.replace("#", "" + (LEAST[i] + 1)), lines);
            good(text.replace("#", "" + (MOST[i] - 1)), lines);
            good(text.replace("#", "" + MOST[i]), lines);
            good(text.replace("#", "00000000000" + MOST[i]), lines);
            bad(text.replace("#", "" + (MOST[i] + 1)), 2, place);
            bad(text.replace("#", "000" + (MOST[i] + 1)), 2, place);
            bad(text.replace("#", MOST[i] + "0"), 2, place);
            if (LEAST[i] > 0) {
                bad(text.replace("#", "" + (LEAST[i] - 1)), 2, place);
                bad(text.replace("#", "000"), 2, place);
            }
        }
    }

    private static void numbersAreKept() {
        ClapMill x = Due.mill("act a 0 1;act b 9 9;guest a 0 9;guest b 9 0;grain a 0 99 98;grain b 99 0 0;seed 99999;cough 100;"
                + "law clap 9999;law turn 0;law grit 0009998;");
        int[] acts = {0, 1, 9, 9};
        int[] guests = {0, 9, 9, 0};
        int[] grains = {0, 99, 98, 99, 0, 0};
        for (int i = 0; i < 2; i++) {
            for (int what = 0; what < 2; what++) {
                due.is("act " + i + ", " + what, x.act(i, what), acts[2 * i + what]);
                due.is("guest " + i + ", " + what, Due.guest(x, i, what), guests[2 * i + what]);
            }
            for (int what = 0; what < 3; what++) {
                due.is("grain " + i + ", " + what, x.grain(i, what), grains[3 * i + what]);
            }
        }
        due.is("law clap", x.law(0, 0), 9999);
        due.is("law turn", x.law(1, 0), 0);
        due.is("law grit", x.law(2, 0), 9998);
        due.is("cough 100", x.quiet(1, 0), 0);
        due.is("cough 0 without", Due.mill("").quiet(1, 0), 1);
        // Seed 99999: (99999 * 1103515245 + 12345) modulo 2^31, by 65536, modulo 100 is the first number.
        long first = (99999L * 1103515245L + 12345L) % (1L << 31) / 65536 % 100;
        String hall = "act a 1 1;show a 0;seed 99999;cough ";
        ClapMill y = Due.mill(hall + first + ";");
        y.go(1);
        due.is("seed 99999, cough as much as its number", y.count(10), 0);
        ClapMill z = Due.mill(hall + (first + 1) + ";");
        z.go(1);
        due.is("seed 99999, cough one more", z.count(10), 1);
    }

    private static void numbersWithoutWrapAround() {
        String[] large = {"2147483647", "2147483648", "4294967295", "4294967296", "4294967297", "4294967301",
            "18446744073709551616", "18446744073709551617", "18446744073709551621", "100000000000000000000000000000001"};
        for (int i = 0; i < NUMBERED.length; i++) {
            for (String number : large) {
                bad(NUMBERED[i].replace("#", number), 2, NUMBERED[i].indexOf('#'));
            }
        }
    }

    private static void numberBelowZero() {
        for (String text : NUMBERED) {
            bad(text.replace("#", "-1"), 1, text.indexOf('#'));
            bad(text.replace("#", "a"), 1, text.indexOf('#'));
        }
    }

    // ---- "a seventh act and so on (at the word of the LINE)"

    private static String many(String line, int times) {
        StringBuilder text = new StringBuilder();
        for (int i = 0; i < times; i++) {
            text.append(line.replace('#', (char) ('a' + i)));
        }
        return text.toString();
    }

    private static void sixOfAKind() {
        String[] lines = {"act # 1 1;", "guest # 1 1;", "grain # 1 1 1;", "show a 1;"};
        int[] most = {6, 6, 4, 14};
        for (int i = 0; i < lines.length; i++) {
            String ahead = i == 3 ? "act a 1 1;" : "";
            int before = i == 3 ? 1 : 0;
            for (int n = 0; n <= most[i]; n++) {
                ClapMill x = new ClapMill();
                due.is(n + " of '" + lines[i] + "'", Due.tell(x, ahead + many(lines[i], n)), n + before);
                due.is("count", x.count(i), n);
            }
            String full = ahead + many(lines[i], most[i]);
            String word = lines[i].substring(0, lines[i].indexOf(' '));
            bad(full + lines[i].replace('#', 'z'), 2, full.length());
            bad(full + " \n" + word, 2, full.length() + 2);
            bad(full + word + " 1 ;", 2, full.length());
            bad(full + word + " a 999;", 2, full.length());
            good(full + "cough 1;", most[i] + before + 1);
        }
        String all = many("act # 1 1;", 6) + many("guest # 1 1;", 6) + many("grain # 1 1 1;", 4) + many("show f 1;", 14)
                + "cough 1;seed 1;law clap 1;law turn 1;law grit 1;";
        good(all, 35);
    }

    // ---- "W: one of 1 .. 6 letters, none of those of the language"; "a word of more than 6 letters"

    private static void lettersOfWords() {
        for (String line : new String[] {"act # 1 1;", "guest # 1 1;", "grain # 1 1 1;", "act abcdef 1 1;show # 1;"}) {
            int lines = line.contains("show") ? 2 : 1;
            int place = line.indexOf('#');
            good(line.replace("#", "abcdef"), lines);
            bad(line.replace("#", "abcdefg"), 1, place);
            bad(line.replace("#", "abcdefghijklmnopqrstuvwxyz"), 1, place);
            bad(line.replace("#", ""), 1, line.replace("#", "").indexOf('1', place));
        }
        good("act a 1 1;act z 1 1;act zzzzzz 1 1;act zzzzz 1 1;", 4);
        bad("show abcdefg 1;", 1, 5);
        bad("show abcdef 1;", 4, 5);
        bad("law clap abcdef;", 1, 9);
        bad("law clap abcdefg;", 1, 9);
        bad("abcdefg 1;", 1, 0);
        bad("act a 1 1 abcdefg;", 1, 10);
    }

    private static void wordsOfTheLanguage() {
        for (String word : LANGUAGE.split(" ")) {
            bad("act " + word + " 1 1;", 1, 4);
            bad("guest " + word + " 1 1;", 1, 6);
            bad("grain " + word + " 1 1 1;", 1, 6);
            bad("show " + word + " 1;", 1, 5);
            String longer = word + "s";
            if (longer.length() <= 6) {
                good("act " + longer + " 1 1;", 1);
            } else {
                bad("act " + longer + " 1 1;", 1, 4);
            }
            good("act " + word.substring(1) + " 1 1;", 1);
            String line = word + " ";
            boolean begins = "act guest grain show cough seed law".contains(word);
            bad(line, 1, begins ? line.length() : 0);
        }
    }

    private static void namesOfTheirKind() {
        good("act a 1 1;guest a 1 1;grain a 1 1 1;", 3);
        good("act a 1 1;act aa 1 1;act b 1 1;", 3);
        good("act abcdef 1 1;act abcdeg 1 1;act abcde 1 1;act bbcdef 1 1;", 4);
        bad("guest x 1 1;guest y 1 1;guest x 1 1;", 3, 30);
        bad("grain abcdef 1 1 1;grain abcdef 1 1 1;", 3, 25);
        bad("act y 1 1;act y 10 1;", 3, 14);
        bad("act y 1 1;act y", 3, 14);
    }

    // ---- "3 told already: ... cough, seed (at the word), a law of its LAW (at LAW)"

    private static void toldAlready() {
        bad("cough 0;cough 0;", 3, 8);
        bad("cough 0;seed 0;cough", 3, 15);
        bad("seed 0;seed 0;", 3, 7);
        bad("seed 5; seed", 3, 8);
        good("cough 0;seed 0;", 2);
        for (String law : new String[] {"clap", "turn", "grit"}) {
            good("law " + law + " 1;", 1);
            bad("law " + law + " 1;law " + law + " 1;", 3, 15);
            bad("law " + law + " 1;law " + law, 3, 15);
        }
        good("law clap 1;law turn 1;law grit 1;", 3);
        bad("law grit 1;law turn 1;law clap 1;law turn 1;", 3, 37);
    }

    // ---- "4 an ACT that isn't told ahead (at W)"

    private static void actToldAhead() {
        bad("show a 1;", 4, 5);
        bad("show a 1;act a 1 1;", 4, 5);
        bad("show  a", 4, 6);
        bad("guest a 1 1;grain a 1 1 1;show a 1;", 4, 31);
        good("act a 1 1;show a 1;", 2);
        bad("act a 1 1;show aa 1;", 4, 15);
        bad("act aa 1 1;show a 1;", 4, 16);
        ClapMill x = Due.mill("act a 3 2;show a 0;");
        due.is("an act of the text ahead", Due.tell(x, "show a 1;"), NONE);
        due.is("isn't told ahead", x.fault(0), 4);
    }

    // ---- "Blanks 10, 32"; "a TOKEN that is none"

    private static void blanks() {
        for (int sign = 0; sign < 256; sign++) {
            String between = "cough 1;" + (char) sign + "seed 1;";
            String within = "cough" + (char) sign + "1;";
            if (sign == 10 || sign == 32) {
                good(between, 2);
                good(within, 1);
                good(("" + (char) sign).repeat(20) + "cough" + (char) sign + (char) sign + "1" + (char) sign + ";" + (char) sign, 1);
            } else {
                bad(between, 1, 8);
                if (sign >= 'a' && sign <= 'z') {
                    bad(within, 1, 0);
                } else if (sign >= '0' && sign <= '9') {
                    good(within, 1);
                } else {
                    bad(within, 1, 5);
                }
            }
        }
    }

    private static void tokensWithoutBlanks() {
        good("act a1 1;", 1);
        bad("act a1;", 1, 6);
        bad("act a11;", 2, 5);
        good("cough1;seed2;", 2);
        bad("acta 1 1;", 1, 0);
        good("law clap1;", 1);
        bad("lawclap 1;", 1, 0);
        good("law clap 1or 2;", 1);
        good("law clap 1or2and3;", 1);
        bad("law clap moodor 2;", 1, 9);
        good("law clap not(1);", 1);
        good("law clap(mood)and(taste);", 1);
        bad("law clap notmood;", 1, 9);
    }

    // ---- "A = (or > behind <) right behind < or > belongs to it."

    private static void signsBehindSigns() {
        String[] sound = {"<", "<=", "=", "<>", ">=", ">"};
        for (String sign : sound) {
            good("law clap 1" + sign + "2;", 1);
            bad("law clap 1" + sign, 1, 10 + sign.length());
            bad("law clap 1" + sign + ";", 1, 10 + sign.length());
            bad("law clap 1" + sign + "#2;", 1, 10 + sign.length());
        }
        String[] spoilt = {"<<", "==", ">>", "=<", "=>", "><", "< =", "< >", "> =", "<\n=", "<=>", "<==", "<>=", "<><", "<>>",
            ">==", ">=<", ">=>", "<=<"};
        for (String signs : spoilt) {
            int first = signs.startsWith("<=") || signs.startsWith("<>") || signs.startsWith(">=") ? 2 : 1;
            int gap = signs.length() > first && signs.charAt(first) <= 32 ? 1 : 0;
            bad("law clap 1" + signs + "2;", 1, 10 + first + gap);
        }
        due.is("<> is one knot", Due.mill("law clap 1<>2;").count(4), 3);
        due.is("<= is one knot", Due.mill("law clap 1<=2;").count(4), 3);
        due.is(">= is one knot", Due.mill("law clap 1>=2;").count(4), 3);
    }

    // ---- "a ninth '(' open"

    private static void bracketsOpen() {
        for (int n = 1; n <= 8; n++) {
            good("law clap " + "(".repeat(n) + "1" + ")".repeat(n) + ";", 1);
            bad("law clap " + "(".repeat(n) + "1" + ")".repeat(n - 1) + ";", 1, 9 + 2 * n);
            bad("law clap " + "(".repeat(n) + "1" + ")".repeat(n + 1) + ";", 1, 10 + 2 * n);
        }
        bad("law clap " + "(".repeat(9) + "1" + ")".repeat(9) + ";", 2, 17);
        bad("law clap " + "(".repeat(20), 2, 17);
        bad("law clap " + "(".repeat(8), 1, 17);
        bad("law clap " + "(1+".repeat(8) + "(", 2, 33);
        bad("law clap " + "(not ".repeat(8) + "(", 2, 49);
        String eight = "((((((((1))))))))";
        good("law clap " + eight + "+" + eight + ";law turn " + eight + ";law grit " + eight + ";", 3);
        good("law clap " + "(".repeat(7) + "(1)+(1)+(1)" + ")".repeat(7) + ";", 1);
        bad("law clap " + "(".repeat(7) + "(1)+((1)" + ")".repeat(8) + ";", 2, 21);
        bad("law clap " + "(".repeat(8) + "1(", 1, 18);
    }

    // ---- "a 65th KNOT of all E (N, NAMES, signs, not, and, or: one each)"

    private static void knotsOfAll() {
        String sum = "1" + "+1".repeat(31);
        good("law clap " + sum + ";", 1);
        good("law clap not " + sum + ";", 1);
        due.is("63 knots", Due.mill("law clap " + sum + ";").count(4), 63);
        due.is("64 knots", Due.mill("law clap not " + sum + ";").count(4), 64);
        due.is("64 knots in two laws", Due.mill("law clap " + sum + ";law grit 1;").count(4), 64);
        String two = "law grit 1" + "+1".repeat(30) + ";law turn not 1;";
        due.is("64 knots in three laws", Due.mill(two + "law clap 1;").count(4), 64);
        bad(two + "law clap 1+1;", 2, two.length() + 10);
        bad("law clap " + sum + "+1;", 2, 9 + sum.length() + 1);
        bad("law clap " + sum + ";law turn not 1;", 2, 9 + sum.length() + 14);
        bad("law clap " + "not ".repeat(64) + "1;", 2, 9 + 4 * 64);
        good("law clap " + "not ".repeat(63) + "1;", 1);
    }

    private static void knotsOfEachKind() {
        String full = "law clap not 1" + "+1".repeat(31);
        String[] joints = {"+", "-", "*", "/", "<", "<=", "=", "<>", ">=", ">", " and ", " or "};
        for (String joint : joints) {
            int at = full.length() + (joint.startsWith(" ") ? 1 : 0);
            bad(full + joint + "1;", 2, at);
            due.is("'" + joint + "' is a knot", Due.mill("law clap 1" + joint + "1;").count(4), 3);
        }
        String[] parts = {"1", "mood", "taste", "hunger", "beside", "speed", "tired", "minute", "not 1"};
        for (String part : parts) {
            bad(full + ";law turn " + part + ";", 2, full.length() + 10);
            due.is("'" + part + "' is a knot", Due.mill("law clap " + part + ";").count(4), part.startsWith("not") ? 2 : 1);
        }
        good("law clap not ((1)" + "+(1)".repeat(31) + ");", 1);
        due.is("brackets are none", Due.mill("law clap (((1)));").count(4), 1);
        bad(full + ";law turn (1);", 2, full.length() + 11);
        due.is("knots of the text of now alone", countAfterAnother(), 1);
    }

    private static int countAfterAnother() {
        ClapMill x = Due.mill("law clap not 1" + "+1".repeat(31) + ";");
        Due.tell(x, "law clap not 1" + "+1".repeat(32) + ";");
        due.is("knots stay with a fault", x.count(4), 64);
        Due.tell(x, "law turn 1;");
        return x.count(4);
    }

    // ---- "FAULTS, the first along the text (of one place the least), with its place"

    private static void firstFaultAlongTheText() {
        bad("act a 10 10;#", 2, 6);
        bad("act a 1 1;act a 10 0;show b 1;", 3, 14);
        bad("show b 1;act a 10 1;", 4, 5);
        bad("# act a 10 1;", 1, 0);
        bad("cough 101;cough 1;", 2, 6);
        bad("cough 1;cough 101;", 3, 8);
        bad("law clap (((((((((10000;", 2, 17);
        bad("law clap 10000(((((((((;", 2, 9);
        bad("guest abcdefg 10 1;", 1, 6);
        bad("guest a 10 abcdefg;", 2, 8);
        bad("act a 1 1;show a 100;show b 1;", 2, 17);
        bad("act a 1 1;show b 100;", 4, 15);
    }

    private static void leastFaultOfAPlace() {
        String full = "law clap not 1" + "+1".repeat(31);
        bad(full + " 10000;", 1, full.length() + 1);
        bad(full + " not 1;", 1, full.length() + 1);
        bad(full + " mood;", 1, full.length() + 1);
        bad("law clap not 1<1" + "+1".repeat(30) + "<1;", 1, 16 + 60);
        bad("law clap 1 10000;", 1, 11);
        bad("law clap ((((((((1(;", 1, 18);
        bad("law clap 1 + not 1" + "+1".repeat(32) + ";", 1, 13);
        bad("act 10 1 1;", 1, 4);
        bad("act a 1 1 100000;", 1, 10);
    }

    // ---- "the length, if more must come"

    private static void moreMustCome() {
        String text = "act ab 1 2 ; guest c 3 4 ; grain d 5 6 7 ; show ab 8 ; cough 9 ; seed 10 ; "
                + "law clap not mood + 1 < ( 2 or 3 ) * 4 and taste - 5 / 6 <> 7 ; law turn 1 ; law grit 1 ; ";
        int lines = 0;
        for (int n = 0; n <= text.length(); n++) {
            boolean cutsNothing = n == 0 || n == text.length() || text.charAt(n - 1) == ' ' || text.charAt(n) == ' ';
            lines += n > 0 && text.charAt(n - 1) == ';' ? 1 : 0;
            if (cutsNothing) {
                String part = text.substring(0, n);
                if (part.isBlank() || part.stripTrailing().endsWith(";")) {
                    good(part, lines);
                } else {
                    bad(part, 1, n);
                }
            }
        }
        due.is("all its lines", lines, 9);
        bad("cough 1  \n \n", 1, 12);
        good("  \n", 0);
    }

    private static void grammarOfPhrases() {
        String[] parts = {"1", "mood", "(1)", "not", "+", "<", "and", "or", ")", ";", "act", "x", "clap", "#"};
        // What may come first, behind a part, behind +, behind <, behind not or and: by the grammar alone.
        boolean[] first = {true, true, true, true, false, false, false, false, false, false, false, false, false, false};
        boolean[] joined = {false, false, false, false, true, true, true, true, false, true, false, false, false, false};
        boolean[] added = {true, true, true, false, false, false, false, false, false, false, false, false, false, false};
        String[] heads = {"", "1 ", "1 + ", "1 < ", "not ", "1 and ", "1 or ", "1 * ", "( ", "( 1 ) ", "1 < 2 "};
        boolean[][] may = {first, joined, added, added, first, first, first, added, first, joined, joined};
        for (int i = 0; i < heads.length; i++) {
            for (int k = 0; k < parts.length; k++) {
                String text = "law grit " + heads[i] + parts[k];
                boolean second = i == 10 && parts[k].equals("<");
                if (may[i][k] && !second) {
                    // It may stand there: the text only has to go on (but for the stop that ends it).
                    if (parts[k].equals(";")) {
                        good(text, 1);
                    } else {
                        bad(text, 1, text.length());
                    }
                } else {
                    bad(text, 1, 9 + heads[i].length());
                }
            }
        }
        for (String word : LANGUAGE.split(" ")) {
            boolean isName = "mood taste hunger beside speed tired minute".contains(word);
            if (isName) {
                good("law grit " + word + ";", 1);
            } else if (word.equals("not")) {
                bad("law grit " + word + ";", 1, 12);
            } else {
                bad("law grit " + word + ";", 1, 9);
            }
            boolean isLaw = word.equals("clap") || word.equals("turn") || word.equals("grit");
            if (isLaw) {
                good("law " + word + " 1;", 1);
            } else {
                bad("law " + word + " 1;", 1, 4);
            }
        }
    }

    private static void worth(String phrase, long want) {
        due.is("'" + phrase + "'", Due.mill("law turn " + phrase + ";").law(1, 0), want);
    }

    /** Sums below products, comparisons below sums, not below comparisons, and below not, or below and. */
    private static void ranksOfJoints() {
        String[] signs = {"<", "<=", "=", "<>", ">=", ">"};
        for (int i = 0; i < signs.length; i++) {
            String sign = signs[i];
            boolean[] less = {true, true, false, true, false, false};
            boolean[] like = {false, true, true, false, true, false};
            worth("1 + 2 " + sign + " 3 + 4", less[i] ? 1 : 0);
            worth("2 + 2 " + sign + " 3 + 1", like[i] ? 1 : 0);
            worth("3 * 2 " + sign + " 9 - 3", like[i] ? 1 : 0);
            worth("not 5 " + sign + " 6", less[i] ? 0 : 1);
            worth("not 6 " + sign + " 6", like[i] ? 0 : 1);
            worth("2 and 5 " + sign + " 6", less[i] ? 1 : 0);
            worth("5 " + sign + " 6 and 2", less[i] ? 1 : 0);
            worth("0 or 5 " + sign + " 6", less[i] ? 1 : 0);
            worth("5 " + sign + " 6 or 0", less[i] ? 1 : 0);
            for (String other : signs) {
                bad("law turn 1" + sign + "2" + other + "3;", 1, 11 + sign.length());
                bad("law turn 1" + sign + "2+3" + other + "4;", 1, 13 + sign.length());
                bad("law turn not 1" + sign + "2" + other + "3;", 1, 15 + sign.length());
                good("law turn (1" + sign + "2)" + other + "3;", 1);
                good("law turn 1" + sign + "2 and 3" + other + "4;", 1);
            }
        }
        worth("1 or 0 and 0", 1);
        worth("0 and 0 or 1", 1);
        worth("not 0 and 0", 0);
        worth("not 1 or 1", 1);
        worth("0 and not 0", 0);
        worth("9 - 4 - 3", 2);
        worth("9 - 4 + 3", 8);
        worth("9 - 4 * 2", 1);
        worth("8 / 2 * 3", 12);
        worth("8 * 3 / 5", 4);
        worth("8 / 2 / 2", 2);
        worth("9 - (4 - 3)", 8);
        worth("8 / (2 * 4)", 1);
        worth("not not 7", 1);
    }

    /** Each text begins anew: neither the one ahead of it nor the one ahead of that is told. */
    private static void nothingOfAnEarlierText() {
        String first = "act a 1 1;guest a 1 1;grain a 1 99 1;show a 0;cough 7;seed 5;law clap 11;law turn 12;law grit 13;";
        for (int texts = 1; texts <= 3; texts++) {
            ClapMill x = Due.mill(first);
            for (int i = 1; i < texts; i++) {
                Due.tell(x, "");
            }
            due.is("all of it again behind " + texts, Due.tell(x, first), 9);
            due.is("its clap", x.law(0, 0), 11);
            due.is("its turn", x.law(1, 0), 12);
            due.is("its grit", x.law(2, 0), 13);
            due.is("its knots", x.count(4), 3);
            ClapMill y = Due.mill(first);
            for (int i = 0; i < texts; i++) {
                Due.tell(y, "guest b 2 2;");
            }
            for (int what = 0; what <= 2; what++) {
                due.is("no law " + what + " behind " + texts, y.law(what, 0), Long.MIN_VALUE);
            }
            int[] counts = {0, 1, 0, 0, 0};
            for (int what = 0; what <= 4; what++) {
                due.is("count(" + what + ") behind " + texts, y.count(what), counts[what]);
            }
            due.is("no cough behind " + texts, y.quiet(1, 0), 1);
        }
        numbersOfAnEarlierText();
    }

    private static void numbersOfAnEarlierText() {
        // Without a seed of its own a text's is 0: its first number is 0, below a cough of 1.
        ClapMill x = Due.mill("seed 99999;");
        for (int i = 0; i < 3; i++) {
            Due.tell(x, "act a 1 1;show a 0;cough 1;");
            x.go(1);
            due.is("seed 0 in text " + i, x.count(10), 1);
        }
    }

    private static void nothingOfAFaultyText() {
        String[] spoilt = {"law clap 1+2*(3-4#", "law clap (((((1#", "law clap 1+#", "law turn not not #", "seed 7;cough 8;#",
            "law clap 5;law turn 6;law grit 7;#", "act a 1 1;guest a 1 1;grain a 1 1 1;show a 1;#",
            "law grit " + "(".repeat(9), "law clap not 1" + "+1".repeat(32)};
        for (String text : spoilt) {
            ClapMill x = new ClapMill();
            due.is("'" + text + "'", Due.tell(x, text), NONE);
            due.is("behind '" + text + "'", Due.tell(x, "guest a 3 3;law clap 4;law turn (5);law grit 6-1;seed 1;cough 9;"), 6);
            due.is("clap behind '" + text + "'", x.law(0, 0), 4);
            due.is("turn behind '" + text + "'", x.law(1, 0), 5);
            due.is("grit behind '" + text + "'", x.law(2, 0), 5);
            due.is("knots behind '" + text + "'", x.count(4), 5);
            due.is("acts behind '" + text + "'", x.count(0), 0);
        }
    }

    // ---- promise 5: "5 bits each (a is 1; the first one highest of six, 0 behind the last one)"

    private static int code(String letters) {
        int code = 0;
        byte[] signs = letters.getBytes(StandardCharsets.ISO_8859_1);
        for (int i = 0; i < signs.length; i++) {
            code |= signs[i] - 96 << 25 - 5 * i;
        }
        return code;
    }

    private static void lettersOfNames() {
        String[] lines = {"act # 1 1;", "guest # 1 1;", "grain # 1 1 1;"};
        String[] names = {"a", "z", "ab", "xyz", "zzzzz", "zzzzzz", "aaaaaa"};
        for (int what = 0; what < 3; what++) {
            for (String name : names) {
                ClapMill x = Due.mill(lines[what].replace("#", "q") + lines[what].replace("#", name));
                for (int other = -1; other <= 3; other++) {
                    due.is(name + " of " + other, x.named(other, code(name)), other == what ? 1 : NONE);
                }
                due.is("the first one", x.named(what, code("q")), 0);
                due.is("one bit more", x.named(what, code(name) | 1 << 30), NONE);
                due.is("the highest bit more", x.named(what, code(name) | 1 << 31), NONE);
                due.is("one less", x.named(what, code(name) - 1), NONE);
                due.is("one more", x.named(what, code(name) + 1), NONE);
                due.is("a bit field lower", x.named(what, code(name) >>> 5), NONE);
                for (int letters : new int[] {0, -1, Integer.MIN_VALUE, Integer.MAX_VALUE}) {
                    due.is("letters " + letters, x.named(what, letters), NONE);
                }
                due.is("what MIN", x.named(Integer.MIN_VALUE, code(name)), NONE);
                due.is("what MAX", x.named(Integer.MAX_VALUE, code(name)), NONE);
            }
        }
        ClapMill y = Due.mill(many("act # 1 1;", 6) + many("guest # 1 1;", 6) + many("grain # 1 1 1;", 4));
        due.is("the last act", y.named(0, code("f")), 5);
        due.is("no act behind it", y.named(0, code("g")), NONE);
        due.is("the last grain", y.named(2, code("d")), 3);
        due.is("no grain behind it", y.named(2, code("e")), NONE);
    }
}
