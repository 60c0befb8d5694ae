/** Promises 6 to 13 and 34 to 37: what is now, minutes, what is done by call, undone, images, counts. */
public final class HallTest {
    private static final int NONE = ClapMill.NONE;
    private static final int LOW = Integer.MIN_VALUE;
    private static final Due due = new Due();

    private static final String SMALL =
            "act x 5 2;act y 0 9;guest p 5 3;guest q 9 6;grain m 1 9 3;grain n 1 99 9;show x 1;show x 2;law turn beside;";

    public static void main(String[] args) {
        wrongOnes();
        minutes();
        hissesAndRunsBack();
        clapsAreBounded();
        lawsNow();
        arithmetic();
        turnAndGrit();
        coughs();
        stagingAndShows();
        changing();
        pushing();
        going();
        undoing();
        images();
        due.end();
    }

    private static void wrongOnes() {
        ClapMill x = Due.mill(SMALL);
        due.is("guest(-1, 0)", Due.guest(x, -1, 0), 1001);
        due.is("guest(2, 0)", Due.guest(x, 2, 0), 1001);
        due.is("guest(2, 9): the guest first", Due.guest(x, 2, 9), 1001);
        due.is("guest(0, -1)", Due.guest(x, 0, -1), 1002);
        due.is("guest(1, 5)", Due.guest(x, 1, 5), 1002);
        due.is("act(2, 0)", x.act(2, 0), NONE);
        due.is("act(-1, 0)", x.act(-1, 0), NONE);
        due.is("act(0, 3)", x.act(0, 3), NONE);
        due.is("act(0, -1)", x.act(0, -1), NONE);
        due.is("grain(2, 0)", x.grain(2, 0), NONE);
        due.is("grain(-1, 0)", x.grain(-1, 0), NONE);
        due.is("grain(0, 4)", x.grain(0, 4), NONE);
        due.is("grain(0, -1)", x.grain(0, -1), NONE);
        due.is("count(16)", x.count(16), LOW);
        due.is("count(-1)", x.count(-1), LOW);
    }

    private static void minutes() {
        ClapMill x = Due.mill(SMALL);
        due.is("taste", Due.guest(x, 1, 0), 9);
        due.is("hunger", Due.guest(x, 1, 1), 6);
        due.is("seat", Due.guest(x, 1, 2), 1);
        due.is("mood", x.act(0, 0), 5);
        due.is("length", x.act(1, 1), 9);
        due.is("low", x.grain(0, 0), 1);
        due.is("high", x.grain(1, 1), 99);
        due.is("nothing is on in minute 0", x.go(1), 1);
        due.is("nobody clapped", Due.guest(x, 0, 4), 0);
        due.is("no speed", x.count(6), 0);
        due.is("a show begins", x.go(1), 2);
        due.is("p clapped", Due.guest(x, 0, 4), 5);
        due.is("q clapped", Due.guest(x, 1, 4), 1);
        due.is("on for one more", x.act(0, 2), 1);
        due.is("the other isn't", x.act(1, 2), 0);
        due.is("what is on", x.count(12), 0);
        due.is("speed", x.count(6), 6);
        due.is("ground", x.grain(0, 3), 1);
        due.is("left", x.grain(0, 2), 2);
        due.is("left in all", x.count(7), 11);
        due.is("the second show", x.go(1), 3);
        due.is("refused", x.count(9), 1);
        due.is("tired of all", x.count(11), 4);
        due.is("over", x.count(12), -2);
        due.is("over, for 0 minutes", x.act(0, 2), 0);
        due.is("clapped in the last minute", Due.guest(x, 0, 4), 5);
        due.is("ground in all", x.count(8), 2);
        due.is("silence", x.go(1), 4);
        due.is("nobody clapped then", Due.guest(x, 0, 4), 0);
        due.is("tired stays", Due.guest(x, 0, 3), 2);
        due.is("shows told", x.count(3), 2);
    }

    private static void hissesAndRunsBack() {
        ClapMill x = Due.mill("act a 9 1;act b 0 9;guest g 9 0;grain o 1 9 2;grain w 1 99 1;show a 0;show b 3;");
        due.is("two minutes", x.go(2), 2);
        due.is("5 by 2, then 2 by 2", x.count(6), 1);
        due.is("both ground", x.grain(0, 3), 2);
        x.push(9);
        x.go(1);
        due.is("10 by 2", x.count(6), 5);
        due.is("the other grain", x.grain(1, 3), 1);
        x.go(1);
        due.is("a hiss", Due.guest(x, 0, 4), -4);
        due.is("a hiss doesn't tire", Due.guest(x, 0, 3), 1);
        due.is("1 by 2, cut", x.count(6), 0);
        x.go(1);
        due.is("below 0", x.count(6), -2);
        due.is("of the latest one comes back", x.grain(1, 3), 0);
        x.go(1);
        due.is("-6 by 2", x.count(6), -3);
        due.is("none of it is left to come back", x.grain(1, 2), 1);
        due.is("none of any", x.grain(0, 3), 2);
        ClapMill y = Due.mill("grain o 1 9 2;");
        y.push(-9);
        y.go(1);
        due.is("-9 by 2, cut towards 0", y.count(6), -4);
        due.is("none was ground", y.count(8), 0);
    }

    private static void clapsAreBounded() {
        ClapMill x = Due.mill("act a 1 9;guest g 1 1;guest h 8 1;guest i 1 1;show a 0;"
                + "law clap (taste = 8) * 99 - (taste = 1) * (beside + 77 * (beside = 0));law turn beside;");
        x.go(1);
        due.is("-77", Due.guest(x, 0, 4), -9);
        due.is("99", Due.guest(x, 1, 4), 9);
        due.is("by the one ahead", Due.guest(x, 2, 4), -9);
        due.is("speed", x.count(6), -9);
        due.is("tired", x.count(11), 1);
        ClapMill y = Due.mill("act a 3 9;guest g 1 1;show a 0;law clap 9 / minute;");
        y.go(1);
        due.is("an error: without", Due.guest(y, 0, 4), 3);
        y.go(1);
        due.is("no error", Due.guest(y, 0, 4), 9);
    }

    private static void lawsNow() {
        ClapMill x = Due.mill("act a 7 2;guest g 1 2;guest h 3 4;grain m 1 99 50;"
                + "law clap mood*1000+taste*100+hunger*10+beside+speed+tired*7+minute;law turn tired*100+beside*10+mood;");
        due.is("clap of g", x.law(0, 0), 120);
        due.is("clap of h", x.law(0, 1), 340);
        due.is("clap of nobody", x.law(0, 2), Long.MIN_VALUE);
        due.is("clap of nobody", x.law(0, -1), Long.MIN_VALUE);
        due.is("turn", x.law(1, -5), 0);
        due.is("no grit", x.law(2, 0), Long.MIN_VALUE);
        due.is("no such law", x.law(3, 0), Long.MIN_VALUE);
        due.is("no such law", x.law(-1, 0), Long.MIN_VALUE);
        x.stage(0);
        x.push(3);
        due.is("mood of what is on", x.law(0, 0), 7123);
        due.is("turn with a mood", x.law(1, 9), 7);
        x.go(1);
        due.is("tired once, speed 99, minute 1", x.law(0, 0), 7000 + 120 + 99 + 7 + 1);
        due.is("turn by ground in all", x.law(1, 0), 107);
    }

    private static long worth(String phrase) {
        return Due.mill("law turn " + phrase + ";").law(1, 0);
    }

    private static void arithmetic() {
        long error = Long.MIN_VALUE;
        due.is("1+2*3", worth("1+2*3"), 7);
        due.is("(1+2)*3", worth("(1+2)*3"), 9);
        due.is("9-3-2", worth("9-3-2"), 4);
        due.is("64/4/2", worth("64/4/2"), 8);
        due.is("7/2*2", worth("7/2*2"), 6);
        due.is("(0-7)/2", worth("(0-7)/2"), -3);
        due.is("1/0", worth("1/0"), error);
        due.is("0 and 1/0", worth("0 and 1/0"), error);
        due.is("1 or 1/0", worth("1 or 1/0"), error);
        due.is("2 and 3", worth("2 and 3"), 1);
        due.is("2 and 0", worth("2 and 0"), 0);
        due.is("0 or 0", worth("0 or 0"), 0);
        due.is("0 or 5", worth("0 or 5"), 1);
        due.is("1 or 0 and 0", worth("1 or 0 and 0"), 1);
        due.is("not 5", worth("not 5"), 0);
        due.is("not not 5", worth("not not 5"), 1);
        due.is("not 0 = 0", worth("not 0 = 0"), 0);
        due.is("not 0 and 0", worth("not 0 and 0"), 0);
        due.is("not 1 or 1", worth("not 1 or 1"), 1);
        due.is("1+1=2", worth("1+1=2"), 1);
        due.is("1<1", worth("1<1"), 0);
        due.is("1<=1", worth("1<=1"), 1);
        due.is("1<>1", worth("1<>1"), 0);
        due.is("1>=2", worth("1>=2"), 0);
        due.is("2>1", worth("2>1"), 1);
        due.is("10 to the 12", worth("1000*1000*1000*1000"), 1000000000000L);
        due.is("10 to the 12 and 1", worth("1000*1000*1000*1000+1"), error);
        due.is("below 0", worth("0-1000*1000*1000*1000"), -1000000000000L);
        due.is("more below 0", worth("0-1000*1000*1000*1000-1"), error);
        due.is("beyond a long", worth("1000*1000*1000*1000*(1000*1000*1000)"), error);
        due.is("beyond a long, back to 0", worth("4096*4096*4096*4*(4096*4096*4096*4)"), error);
        due.is("an error that comes to less", worth("1000*1000*1000*1001/1000"), error);
        due.is("0 times", worth("0*(0-1000*1000*1000*1000)"), 0);
        due.is("below 0 times below 0", worth("(0-9999)*(0-9999)"), 99980001);
        due.is("product at the limit below 0", worth("(0-1000*1000)*(1000*1000)"), -1000000000000L);
        due.is("63 times not", worth("not ".repeat(63) + "5"), 0);
        due.is("62 times not", worth("not ".repeat(62) + "5"), 1);
        due.is("with brackets", worth("not (".repeat(8) + "not ".repeat(55) + "5" + ")".repeat(8)), 0);
        due.is("product beyond it", worth("(0-1000*1000)*(1000*1000+1)"), error);
    }

    private static void turnAndGrit() {
        ClapMill x = Due.mill("grain a 5 99 4;grain b 3 4 9;grain c 1 99 99;law turn minute+3;law grit speed - 4 + 3*(tired > 3);");
        x.go(1);
        due.is("speed 3: grit -1 is 0", x.count(8), 0);
        x.go(1);
        due.is("speed 4: grit 0", x.count(8), 0);
        x.push(-50);
        due.is("pushed", x.count(6), -46);
        x.go(1);
        due.is("speed 5: grit 1", x.grain(0, 3), 1);
        x.go(1);
        due.is("speed 6: grit 2", x.grain(0, 3), 3);
        x.go(1);
        due.is("speed 7: all that are left", x.grain(0, 3), 4);
        x.go(1);
        due.is("speed 8: of the next grain that fits", x.grain(2, 3), 7);
        x.go(7);
        due.is("9 at most", x.grain(2, 3), 7 + 8 + 6 * 9);
        ClapMill y = Due.mill("grain c 1 99 9;law turn 5000;law grit 1/0;");
        y.go(2);
        due.is("speed is 99 at most", y.count(6), 99);
        due.is("1 with an error", y.count(8), 2);
        ClapMill z = Due.mill("grain c 1 99 9;law turn 1/tired - 5000;");
        z.push(9);
        z.go(1);
        due.is("half, with an error", z.count(6), 4);
        z.go(1);
        due.is("speed is -99 at least", z.count(6), -99);
        due.is("one came back", z.count(8), 0);
        ClapMill w = Due.mill("grain a 1 5 1;grain b 6 9 1;law grit speed < 5;");
        w.push(8);
        w.go(1);
        due.is("speed 4 grinds", w.grain(0, 3), 1);
        w.push(10);
        w.go(1);
        due.is("grit 0 of another grain", w.grain(1, 3), 0);
        w.push(-40);
        w.go(1);
        due.is("it isn't the latest by that", w.grain(0, 3), 0);
    }

    private static void coughs() {
        String hall = "act a 4 9;guest g 4 0;grain o 1 99 99;show a 0;show a 9;law turn beside;";
        ClapMill x = Due.mill(hall + "cough 100;");
        x.go(12);
        due.is("always coughed", x.count(10), 12);
        due.is("sum is 0", x.count(8), 0);
        due.is("tired all the same", x.count(11), 12);
        due.is("clapped all the same", Due.guest(x, 0, 4), 5);
        x.go(20);
        due.is("not where nothing is on", x.count(10), 18);
        ClapMill y = Due.mill(hall + "seed 5;");
        y.go(30);
        due.is("never coughed", y.count(10), 0);
        due.is("ground", y.count(8), 18);
        // Seed 1: the numbers are 16838, 5758, 10113, 17515, 31051, 5627, 23010, 7419, 16212, 4086.
        int[] counts = {1, 1, 2, 3, 3, 4, 5, 6, 7, 7};
        ClapMill z = Due.mill(hall + "cough 51;seed 1;");
        for (int i = 0; i < counts.length; i++) {
            z.go(1);
            due.is("coughed by minute " + (i + 1), z.count(10), counts[i]);
        }
        // The first number from seed 0 is 12345 by 65536, cut: 0.
        Due.tell(z, hall + "cough 1;");
        z.go(1);
        due.is("seed 0 without a seed", z.count(10), 1);
    }

    private static void stagingAndShows() {
        ClapMill x = Due.mill(SMALL);
        due.is("stage(-1)", x.stage(-1), NONE);
        due.is("stage(2)", x.stage(2), NONE);
        due.is("stage(0)", x.stage(0), 2);
        due.is("on now", x.count(12), 0);
        due.is("this minute the first", x.act(0, 2), 2);
        due.is("something is on", x.stage(1), -2);
        due.is("no such act, something on", x.stage(7), NONE);
        due.is("one can be undone", x.count(15), 1);
        x.go(2);
        due.is("it was over before minute 2", x.count(12), -2);
        due.is("a show was refused", x.count(9), 1);
        x.go(1);
        due.is("the other show", x.count(12), 0);
        due.is("none refused", x.count(9), 1);
        ClapMill y = Due.mill("act a 1 3;act b 2 4;show b 5;show a 5;show a 6;show a 9;show b 12;");
        y.go(6);
        due.is("by their numbers", y.count(12), 1);
        due.is("the second is refused", y.count(9), 1);
        y.go(4);
        due.is("over behind 4 minutes, a from 9", y.count(12), 0);
        due.is("one more refused", y.count(9), 2);
        y.go(3);
        due.is("b from 12 on", y.act(1, 2), 3);
    }

    private static void changing() {
        ClapMill x = Due.mill("act a 1 3;guest g 1 0;guest h 2 0;guest i 3 0;show a 0;law clap beside+1+taste;");
        due.is("alike", x.change(1, 1), NONE);
        due.is("no such one", x.change(0, 3), NONE);
        due.is("no such one", x.change(-1, 0), NONE);
        due.is("none can be undone", x.count(15), 0);
        due.is("change(0, 2)", x.change(0, 2), 2);
        due.is("the other one's seat", Due.guest(x, 2, 2), 0);
        due.is("change(0, 1)", x.change(0, 1), 1);
        due.is("seat of h", Due.guest(x, 1, 2), 2);
        x.go(1);
        due.is("i claps first", Due.guest(x, 2, 4), 4);
        due.is("g then", Due.guest(x, 0, 4), 6);
        due.is("h last", Due.guest(x, 1, 4), 9);
    }

    private static void pushing() {
        ClapMill x = new ClapMill();
        due.is("push(0)", x.push(0), LOW);
        due.is("push(100)", x.push(100), LOW);
        due.is("push(-100)", x.push(-100), LOW);
        due.is("push(MIN)", x.push(Integer.MIN_VALUE), LOW);
        due.is("push(-99)", x.push(-99), -99);
        due.is("push(-1)", x.push(-1), -99);
        due.is("push(99)", x.push(99), 0);
        due.is("push(99)", x.push(99), 99);
        due.is("push(1)", x.push(1), 99);
        due.is("five to undo", x.count(15), 5);
    }

    private static void going() {
        ClapMill x = Due.mill("law turn minute;");
        due.is("go(-1)", x.go(-1), NONE);
        due.is("go(201)", x.go(201), NONE);
        due.is("go(0)", x.go(0), 0);
        for (int i = 1; i <= 44; i++) {
            due.is("go(200)", x.go(200), 200 * i);
        }
        due.is("go(199)", x.go(199), 8999);
        due.is("behind 9000", x.go(2), NONE);
        due.is("none goes by", x.count(5), 8999);
        due.is("go(1)", x.go(1), 9000);
        due.is("behind 9000", x.go(1), NONE);
        due.is("go(0)", x.go(0), 9000);
        due.is("it can be asked ahead", x.ahead(200, 2, 0), 99);
    }

    private static void undoing() {
        ClapMill x = Due.mill(SMALL);
        due.is("nothing to undo", x.undo(), NONE);
        x.push(60);
        x.push(60);
        x.stage(1);
        x.change(0, 1);
        x.push(-5);
        due.is("five", x.count(15), 5);
        due.is("no minute goes by", x.go(0), 0);
        due.is("undo a push", x.undo(), 4);
        due.is("speed", x.count(6), 99);
        due.is("undo a change", x.undo(), 3);
        due.is("seat", Due.guest(x, 0, 2), 0);
        due.is("undo a stage", x.undo(), 2);
        due.is("nothing on", x.count(12), -2);
        due.is("undo a push to the most", x.undo(), 1);
        due.is("speed", x.count(6), 60);
        x.go(1);
        due.is("a minute went by", x.undo(), NONE);
        due.is("none", x.count(15), 0);
        ClapMill y = new ClapMill();
        for (int i = 0; i < 25; i++) {
            y.push(1);
        }
        due.is("20 at most", y.count(15), 20);
        for (int left = 19; left >= 0; left--) {
            due.is("undo", y.undo(), left);
        }
        due.is("the oldest five stand", y.count(6), 5);
        due.is("none", y.undo(), NONE);
    }

    private static void images() {
        ClapMill x = Due.mill("act a 4 3;guest g 4 0;guest h 1 0;grain o 1 99 99;show a 0;show a 1;cough 50;seed 3;");
        due.is("no image", x.back(), NONE);
        x.go(2);
        x.change(0, 1);
        x.push(3);
        int[] then = counts(x);
        due.is("keep()", x.keep(), 2);
        due.is("what can be undone stays", x.count(15), 2);
        x.go(7);
        int[] later = counts(x);
        x.stage(0);
        x.change(0, 1);
        x.see(1, 1, true);
        x.see(2, 1, true);
        due.is("back()", x.back(), 2);
        int[] again = counts(x);
        for (int what = 0; what < 13; what++) {
            due.is("back: count(" + what + ")", again[what], then[what]);
        }
        due.is("back: seat", Due.guest(x, 0, 2), 1);
        due.is("what was seen stays", x.count(13), 2);
        due.is("nothing to undo", x.undo(), NONE);
        x.go(7);
        int[] afterwards = counts(x);
        for (int what = 0; what < 13; what++) {
            due.is("the numbers come again: count(" + what + ")", afterwards[what], later[what]);
        }
        due.is("back again", x.back(), 2);
        x.go(5);
        due.is("in place of one ahead", x.keep(), 7);
        x.go(1);
        due.is("back to the later one", x.back(), 7);
    }

    private static int[] counts(ClapMill x) {
        int[] counts = new int[13];
        for (int what = 0; what < counts.length; what++) {
            counts[what] = x.count(what);
        }
        return counts;
    }
}
