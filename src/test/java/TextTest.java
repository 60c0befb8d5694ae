/** Promises 1 to 5: a new object, the tape, the text, its faults and names. */
public final class TextTest {
    private static final Due due = new Due();

    public static void main(String[] args) {
        newObject();
        tape();
        goodTexts();
        faultsOfLines();
        faultsOfPhrases();
        manyOfAKind();
        knots();
        staysWithAFault();
        beginsAnew();
        names();
        due.end();
    }

    private static void newObject() {
        ClapMill x = new ClapMill();
        for (int what = 0; what <= 15; what++) {
            due.is("new: count(" + what + ")", x.count(what), what == 12 ? -2 : 0);
        }
        due.is("new: count(-1)", x.count(-1), Integer.MIN_VALUE);
        due.is("new: fault(0)", x.fault(0), 0);
        due.is("new: fault(1)", x.fault(1), ClapMill.NONE);
        due.is("new: fault(-1)", x.fault(-1), ClapMill.NONE);
        due.is("new: text(0)", x.text(0), 0);
        due.is("new: back()", x.back(), ClapMill.NONE);
    }

    private static void tape() {
        ClapMill x = new ClapMill();
        int blanks = 0x20202020;
        due.is("text(-1)", x.text(-1), -2);
        due.is("text(1) of an empty tape", x.text(1), -2);
        due.is("bytes, the highest first", x.feed(0x73656564, 0x2034323b, blanks, blanks, blanks), 20);
        due.is("text(21)", x.text(21), -2);
        due.is("text(-1)", x.text(-1), -2);
        due.is("the tape stays by -2", x.feed(blanks, blanks, blanks, blanks, 0x2020203b), 40);
        due.is("its first bytes alone", x.text(8), 1);
        due.is("it is empty then", x.feed(blanks, blanks, blanks, blanks, 0x2020203b), 20);
        due.is("with a fault", x.text(20), ClapMill.NONE);
        due.is("its place", x.fault(1), 19);
        due.is("it is empty with a fault, too", x.feed(blanks, blanks, blanks, blanks, blanks), 20);
        due.is("text(21) again", x.text(21), -2);
        due.is("-2 is not the latest", x.fault(0), 1);
        for (int i = 2; i <= 35; i++) {
            due.is("feed " + i, x.feed(blanks, blanks, blanks, blanks, blanks), 20 * i);
        }
        due.is("more than 700", x.feed(blanks, blanks, blanks, blanks, blanks), ClapMill.NONE);
        due.is("none came", x.text(701), -2);
        due.is("all 700", x.text(700), 0);
        due.is("no fault", x.fault(0), 0);
        due.is("no place", x.fault(1), ClapMill.NONE);
    }

    private static void good(String text, int lines) {
        ClapMill x = new ClapMill();
        due.is("lines of '" + text + "'", Due.tell(x, text), lines);
        due.is("fault of '" + text + "'", x.fault(0), 0);
        due.is("place of '" + text + "'", x.fault(1), ClapMill.NONE);
    }

    private static void bad(String text, int kind, int place) {
        ClapMill x = new ClapMill();
        due.is("text '" + text + "'", Due.tell(x, text), ClapMill.NONE);
        due.is("fault of '" + text + "'", x.fault(0), kind);
        due.is("place of '" + text + "'", x.fault(1), place);
    }

    private static void goodTexts() {
        good("", 0);
        good(" \n ", 0);
        good("act a1 1;", 1);
        good("act\na\n9 9\n;\n", 1);
        good("act abcdef 007 01;", 1);
        good("guest a 0 0;guest b 9 9;", 2);
        good("grain a 0 0 0;grain b 99 99 99;grain c 9 3 1;", 3);
        good("act a 0 1;show a 0;show a 99;", 3);
        good("cough 0;", 1);
        good("cough 100;seed 99999;", 2);
        good("law clap 1;law turn 1;law grit 1;", 3);
        good("law clap 9999;", 1);
        good("law clap mood+taste*hunger/beside-speed or tired and minute;", 1);
        good("law clap 1<=2;law turn 1<>2;law grit 1>=2;", 3);
        good("law clap 1 < 2 and 3 > 4 or 5 = 6;", 1);
        good("law clap not 1 = 2;", 1);
        good("law clap not not 1 and not (not 2 or 3);", 1);
        good("law clap (1 < 2) < 3;", 1);
        good("law clap 1 + (not 2);", 1);
        good("law clap ((((((((1))))))));", 1);
        good("law clap (1)+(1)+(1)+(1)+(1)+(1)+(1)+(1)+(1)+(1);", 1);
    }

    private static void faultsOfLines() {
        bad("act", 1, 3);
        bad("act ", 1, 4);
        bad("act a", 1, 5);
        bad("act a 1", 1, 7);
        bad("act a 1 1", 1, 9);
        bad("act a 1 1 \n ", 1, 12);
        bad("act a 1 1;;", 1, 10);
        bad(";", 1, 0);
        bad("1", 1, 0);
        bad("a", 1, 0);
        bad("mood", 1, 0);
        bad("Act a 1 1;", 1, 0);
        bad("act A 1 1;", 1, 4);
        bad("act\ta 1 1;", 1, 3);
        bad("act a 1 1;\u00e9", 1, 10);
        bad("act abcdefg 1 1;", 1, 4);
        bad("minutes", 1, 0);
        for (String word : ("act guest grain show cough seed law clap turn grit or and not "
                + "mood taste hunger beside speed tired minute").split(" ")) {
            bad("guest " + word + " 1 1;", 1, 6);
        }
        bad("act 1 1 1;", 1, 4);
        bad("act a b 1;", 1, 6);
        bad("act a 1 1 1;", 1, 10);
        bad("act a 1 + 1;", 1, 8);
        bad("grain a 1 1;", 1, 11);
        bad("act a 10 1;", 2, 6);
        bad("act a 1 0;", 2, 8);
        bad("act a 1 10;", 2, 8);
        bad("act a 99999999999999999999999 1;", 2, 6);
        bad("guest a 10 b;", 2, 8);
        bad("guest a 1 10;", 2, 10);
        bad("grain a 100 1 1;", 2, 8);
        bad("grain a 1 100 1;", 2, 10);
        bad("grain a 1 1 100;", 2, 12);
        bad("act a 1 1;show a 100;", 2, 17);
        bad("cough 101;", 2, 6);
        bad("cough;", 1, 5);
        bad("cough a;", 1, 6);
        bad("seed 100000;", 2, 5);
        bad("cough 0;cough 0;", 3, 8);
        bad("seed 0;seed 0;", 3, 7);
        bad("act a 1 1;act a 1 1;", 3, 14);
        bad("show a 1;act a 1 1;", 4, 5);
        bad("show a 100;", 4, 5);
        bad("guest a 1 1;show a 1;", 4, 17);
        bad("show act 1;", 1, 5);
    }

    private static void faultsOfPhrases() {
        bad("law", 1, 3);
        bad("law mood 1;", 1, 4);
        bad("law x 1;", 1, 4);
        bad("law clap", 1, 8);
        bad("law clap 1", 1, 10);
        bad("law clap;", 1, 8);
        bad("law clap 1 < 2 < 3;", 1, 15);
        bad("law clap 1 < 2 + 2 = 3;", 1, 19);
        bad("law clap not 1 < 2 < 3;", 1, 19);
        bad("law clap 1 < = 2;", 1, 13);
        bad("law clap 1 => 2;", 1, 12);
        bad("law clap 1 >< 2;", 1, 12);
        bad("law clap 1 <=> 2;", 1, 13);
        bad("law clap 1 + not 2;", 1, 13);
        bad("law clap 1 = not 2;", 1, 13);
        bad("law clap 1 not 2;", 1, 11);
        bad("law clap -1;", 1, 9);
        bad("law clap ();", 1, 10);
        bad("law clap (1;", 1, 11);
        bad("law clap (1", 1, 11);
        bad("law clap 1);", 1, 10);
        bad("law clap 1 2;", 1, 11);
        bad("law clap 1 or;", 1, 13);
        bad("law clap 1 (;", 1, 11);
        bad("law clap a;", 1, 9);
        bad("law clap act;", 1, 9);
        bad("law clap 1 + #;", 1, 13);
        bad("law clap 10000;", 2, 9);
        bad("law clap 1 10000;", 1, 11);
        bad("law clap (((((((((1)))))))));", 2, 17);
        bad("law clap ((((((((1 (;", 1, 19);
        bad("law turn 1;law turn 1;", 3, 15);
    }

    private static void manyOfAKind() {
        String acts = "";
        String guests = "";
        String grains = "";
        String shows = "";
        for (int i = 0; i < 14; i++) {
            char name = (char) ('a' + i);
            acts += i < 6 ? "act " + name + " 1 1;" : "";
            guests += i < 6 ? "guest " + name + " 1 1;" : "";
            grains += i < 4 ? "grain " + name + " 1 1 1;" : "";
            shows += "show a 1;";
        }
        good(acts, 6);
        bad(acts + "act a", 2, acts.length());
        good(guests, 6);
        bad(guests + "guest a", 2, guests.length());
        good(grains, 4);
        bad(grains + "grain a", 2, grains.length());
        good("act a 1 1;" + shows, 15);
        bad("act a 1 1;" + shows + "show b", 2, 10 + shows.length());
    }

    private static void knots() {
        String sum = "law clap 1" + "+1".repeat(31);
        ClapMill x = Due.mill(sum + ";");
        due.is("knots of a sum", x.count(4), 63);
        good("law clap not 1" + "+1".repeat(31) + ";", 1);
        bad(sum + "+1;", 2, sum.length() + 1);
        bad(sum + "<1;", 2, sum.length() + 1);
        bad(sum + ";law turn not 1;", 2, sum.length() + 14);
        bad(sum + " 1;", 1, sum.length() + 1);
        String more = "law clap not 1" + "+1".repeat(31);
        bad(more + "+1;", 2, more.length());
        bad(more + " 1;", 1, more.length() + 1);
        bad(more + ";law turn 10000;", 2, more.length() + 10);
        bad(more + ";law turn ;", 1, more.length() + 10);
        due.is("brackets are no knots", Due.mill("law clap ((1)+(2));").count(4), 3);
        due.is("and, or, not, names are", Due.mill("law clap not mood and 1 or tired <> 2;").count(4), 8);
    }

    private static void staysWithAFault() {
        ClapMill x = Due.mill("act a 3 4;guest g 1 2;guest h 2 3;grain w 1 9 5;seed 7;");
        x.keep();
        x.see(3, 4, true);
        x.known(0);
        x.push(8);
        x.change(0, 1);
        due.is("a fault", Due.tell(x, "act b 1 1;show c 1;"), ClapMill.NONE);
        due.is("fault 4", x.fault(0), 4);
        due.is("its place", x.fault(1), 15);
        due.is("acts stay", x.named(0, 1 << 25), 0);
        due.is("mood stays", x.act(0, 0), 3);
        due.is("speed stays", x.count(6), 8);
        due.is("seats stay", Due.guest(x, 0, 2), 1);
        due.is("seen stays", x.count(13), 1);
        due.is("known stays", x.count(14), 0);
        due.is("undo stays", x.undo(), 1);
        due.is("image stays", x.back(), 0);
    }

    private static void beginsAnew() {
        ClapMill x = Due.mill("act a 3 4;guest g 1 2;guest h 2 3;grain w 1 9 5;show a 0;show a 1;cough 40;seed 7;law clap 9;");
        x.go(3);
        x.push(8);
        x.change(0, 1);
        x.keep();
        x.see(3, 4, true);
        x.known(0);
        due.is("a new text", Due.tell(x, "guest k 1 2;guest l 4 4;act b 1 2;"), 3);
        int[] want = {1, 2, 0, 0, 0, 0, 0, 0, 0, 0, 0, 0, -2, 0, 0, 0};
        for (int what = 0; what < want.length; what++) {
            due.is("anew: count(" + what + ")", x.count(what), want[what]);
        }
        due.is("anew: seat", Due.guest(x, 0, 2), 0);
        due.is("anew: tired", Due.guest(x, 0, 3), 0);
        due.is("anew: clapped", Due.guest(x, 0, 4), 0);
        due.is("anew: undo()", x.undo(), ClapMill.NONE);
        due.is("anew: back()", x.back(), ClapMill.NONE);
        due.is("anew: no cough", x.quiet(1, 1), 1);
        due.is("anew: no law", x.law(0, 0), Long.MIN_VALUE);
        due.is("anew: all known", x.see(1, 1, true), 0);
        due.is("anew: those to come, too", x.count(14), 1);
    }

    private static void names() {
        ClapMill x = Due.mill("act zzzzzz 1 1;act b 1 1;guest b 1 1;guest ab 1 1;grain ba 1 1 1;");
        due.is("zzzzzz", x.named(0, code("zzzzzz")), 0);
        due.is("act b", x.named(0, code("b")), 1);
        due.is("guest b", x.named(1, code("b")), 0);
        due.is("guest ab", x.named(1, code("ab")), 1);
        due.is("grain ba", x.named(2, code("ba")), 0);
        due.is("grain b", x.named(2, code("b")), ClapMill.NONE);
        due.is("grain b at the end", x.named(1, 2), ClapMill.NONE);
        due.is("no letters", x.named(0, 0), ClapMill.NONE);
        due.is("below 0", x.named(1, -1), ClapMill.NONE);
        due.is("more bits", x.named(1, code("b") | 1 << 30), ClapMill.NONE);
        due.is("no such what", x.named(3, code("b")), ClapMill.NONE);
        due.is("no such what", x.named(-1, code("b")), ClapMill.NONE);
    }

    private static int code(String letters) {
        int code = 0;
        for (int i = 0; i < 6; i++) {
            code = code * 32 + (i < letters.length() ? letters.charAt(i) - 'a' + 1 : 0);
        }
        return code;
    }
}
