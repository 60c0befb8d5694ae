/**
 * Promises 6 to 13 and the document's section 2: each limit of a minute, of what is told now and of what
 * is done by call, at it and a step to each side of it.
 */
public final class HallEdgeTest {
    private static final int NONE = ClapMill.NONE;
    private static final int LOW = Integer.MIN_VALUE;
    private static final int MIN = Integer.MIN_VALUE;
    private static final int MAX = Integer.MAX_VALUE;
    private static final long ERROR = Long.MIN_VALUE;
    private static final Due due = new Due();

    private static final String FULL = "act a 0 1;act b 1 2;act c 2 3;act d 3 4;act e 4 5;act f 5 9;"
            + "guest a 0 1;guest b 1 2;guest c 2 3;guest d 3 4;guest e 4 5;guest f 5 6;"
            + "grain a 0 1 2;grain b 1 2 3;grain c 2 3 4;grain d 3 4 5;";

    public static void main(String[] args) {
        showsAtTheirMinute();
        actsForTheirLength();
        showsRefused();
        clapsWithinNine();
        clapsWithAnError();
        tiredAboveZero();
        firstSeatHasNobodyBeside();
        nothingOn();
        coughBelowItsNumber();
        noNumbersOfSilentMinutes();
        coughedMinute();
        speedWithinNinetyNine();
        halfCutTowardsZero();
        lowAndHigh();
        noSacksLeft();
        speedOfZeroAndOne();
        gritWithinNine();
        gritOfZeroIsNotTheLatest();
        oneComesBack();
        noneComesBack();
        namesAsTheyAreByThen();
        valuesWithinTheLimit();
        comparisons();
        guests();
        acts();
        grains();
        laws();
        staging();
        changing();
        pushing();
        going();
        due.end();
    }

    // ---- (1) "SHOWS of this MINUTE"; "for as many MINUTES as its LENGTH, this one with; else it is REFUSED"

    private static void showsAtTheirMinute() {
        for (int minute : new int[] {0, 1, 50, 98, 99}) {
            ClapMill x = Due.mill("act a 1 9;show a " + minute + ";");
            x.go(minute);
            due.is("not yet on ahead of minute " + minute, x.count(12), -2);
            x.go(1);
            due.is("on in minute " + minute, x.count(12), 0);
            due.is("for 8 more", x.act(0, 2), 8);
        }
        ClapMill y = Due.mill("act a 1 1;guest g 1 0;show a 0;show a 99;");
        y.go(100);
        due.is("both shows", y.count(11), 2);
        y.go(100);
        due.is("none behind them", y.count(11), 2);
    }

    private static void actsForTheirLength() {
        for (int length = 1; length <= 9; length++) {
            ClapMill x = Due.mill("act a 1 " + length + ";guest g 1 0;show a 2;");
            x.go(2);
            for (int i = 1; i <= length; i++) {
                x.go(1);
                due.is("length " + length + ": left behind minute " + i, x.act(0, 2), length - i);
                due.is("length " + length + ": what is on", x.count(12), i < length ? 0 : -2);
                due.is("length " + length + ": claps", Due.guest(x, 0, 4), 5);
            }
            x.go(1);
            due.is("length " + length + ": over", Due.guest(x, 0, 4), 0);
            due.is("length " + length + ": tired", Due.guest(x, 0, 3), length);
        }
    }

    private static void showsRefused() {
        int[] minutes = {5, 7, 8};
        int[] refused = {1, 1, 0};
        for (int i = 0; i < minutes.length; i++) {
            ClapMill x = Due.mill("act a 1 3;act b 2 4;show a 5;show b " + minutes[i] + ";");
            x.go(minutes[i] + 1);
            due.is("a show of minute " + minutes[i], x.count(9), refused[i]);
            due.is("b is on", x.act(1, 2), refused[i] == 0 ? 3 : 0);
            due.is("a is on", x.act(0, 2), minutes[i] == 5 ? 2 : 0);
        }
        ClapMill y = Due.mill("act a 1 1;act b 2 1;show b 3;show a 3;show a 3;");
        y.go(4);
        due.is("by their numbers: two are refused", y.count(9), 2);
        ClapMill z = Due.mill("act a 1 3;show a 0;");
        z.stage(0);
        z.go(1);
        due.is("a show of the minute that was staged", z.count(9), 1);
        due.is("the staged one goes on", z.act(0, 2), 2);
        StringBuilder all = new StringBuilder("act a 1 9;");
        all.append("show a 4;".repeat(14));
        ClapMill w = Due.mill(all.toString());
        w.go(5);
        due.is("thirteen of fourteen", w.count(9), 13);
    }

    // ---- (2) "CLAPS E of clap (-9 .. 9; 5 less the difference of TASTE and MOOD without, with an ERROR)"

    private static int clapBy(String law) {
        ClapMill x = Due.mill("act a 3 9;guest g 7 5;show a 0;" + law);
        x.go(1);
        return Due.guest(x, 0, 4);
    }

    private static void clapsWithinNine() {
        int[] values = {-9999, -10, -9, -8, -1, 0, 1, 8, 9, 10, 9999};
        for (int value : values) {
            String law = value < 0 ? "law clap 0 - " + -value + ";" : "law clap " + value + ";";
            due.is("clap " + value, clapBy(law), Math.max(-9, Math.min(9, value)));
        }
        due.is("clap of the most", clapBy("law clap 1000*1000*1000*1000;"), 9);
        due.is("clap of the least", clapBy("law clap 0-1000*1000*1000*1000;"), -9);
        due.is("clap beyond an int", clapBy("law clap 4096*4096*256;"), 9);
        due.is("clap beyond an int, below 0", clapBy("law clap 0-4096*4096*256;"), -9);
    }

    private static void clapsWithAnError() {
        due.is("without", clapBy(""), 1);
        due.is("/ by 0", clapBy("law clap 9/0;"), 1);
        due.is("above the most", clapBy("law clap 1000*1000*1000*1000+1;"), 1);
        due.is("below the least", clapBy("law clap 0-1000*1000*1000*1000-1;"), 1);
        for (int taste = 0; taste <= 9; taste++) {
            for (int mood = 0; mood <= 9; mood += 3) {
                ClapMill x = Due.mill("act a " + mood + " 9;guest g " + taste + " 5;show a 0;");
                x.go(1);
                due.is("taste " + taste + ", mood " + mood, Due.guest(x, 0, 4), 5 - Math.abs(taste - mood));
            }
        }
    }

    // ---- "if that is above 0, the GUEST is TIRED once more"

    private static void tiredAboveZero() {
        for (int clap = -2; clap <= 2; clap++) {
            ClapMill x = Due.mill("act a 3 9;guest g 7 5;show a 0;law clap 2 - " + (2 - clap) + ";");
            x.go(3);
            due.is("claps of " + clap, Due.guest(x, 0, 3), clap > 0 ? 3 : 0);
        }
        ClapMill y = Due.mill("act a 3 9;guest g 7 5;show a 0;cough 100;law clap 1;");
        y.go(3);
        due.is("coughed or not", Due.guest(y, 0, 3), 3);
        ClapMill z = Due.mill("act a 3 9;guest g 3 5;law clap 1;");
        for (int i = 0; i < 45; i++) {
            for (int k = 0; k < 4; k++) {
                z.stage(0);
                z.go(9);
            }
        }
        due.is("as often as minutes", Due.guest(z, 0, 3), 45 * 36);
    }

    // ---- "beside: what the GUEST one SEAT ahead CLAPPED in this MINUTE (of the first one 0; of turn, grit SUM)"

    private static void firstSeatHasNobodyBeside() {
        ClapMill x = Due.mill("act a 1 2;guest a 1 0;guest b 2 0;guest c 3 0;guest d 4 0;guest e 5 0;guest f 6 0;show a 0;"
                + "law clap beside + 1;law turn beside;");
        x.go(1);
        for (int guest = 0; guest < 6; guest++) {
            due.is("claps of seat " + guest, Due.guest(x, guest, 4), guest + 1);
        }
        due.is("sum of all six", x.count(6), 21);
        x.change(5, 0);
        x.go(1);
        due.is("the last one is first", Due.guest(x, 5, 4), 1);
        due.is("the first one is last", Due.guest(x, 0, 4), 6);
        ClapMill y = Due.mill("act a 1 2;guest a 1 0;guest b 2 0;show a 0;law clap 20 - 40*(beside > 9);law turn beside;");
        y.go(1);
        due.is("beside is 9 at most", Due.guest(y, 1, 4), 9);
        due.is("sum of claps within 9", y.count(6), 18);
    }

    private static void nothingOn() {
        ClapMill x = Due.mill("act a 4 1;guest g 4 1;grain o 1 99 9;law clap 9;law turn 7 + beside*10 + mood;law grit 1 + mood + beside;");
        x.go(1);
        due.is("speed by turn though nothing is on", x.count(6), 7);
        due.is("ground by grit though nothing is on", x.count(8), 1);
        due.is("nobody claps", Due.guest(x, 0, 4), 0);
        due.is("nobody is tired", x.count(11), 0);
        x.stage(0);
        x.go(1);
        due.is("sum and mood in the act's last minute", x.count(6), 99);
        due.is("grit in the act's last minute", x.count(8), 9);
        ClapMill y = Due.mill("act a 4 1;guest g 4 1;show a 0;cough 100;");
        y.go(2);
        due.is("nothing on isn't coughed", y.count(10), 1);
        ClapMill z = Due.mill("act a 4 2;show a 0;law turn beside + 3;");
        z.go(1);
        due.is("an act without guests: sum 0", z.count(6), 3);
    }

    // ---- (3) "a number modulo 100 ... below cough: it is COUGHED"

    private static long numberOf(long seed, int which) {
        long last = seed;
        for (int i = 0; i <= which; i++) {
            last = (last * 1103515245L + 12345L) % (1L << 31);
        }
        return last / 65536 % 100;
    }

    private static int coughedBy(long seed, long cough) {
        ClapMill x = Due.mill("act a 4 1;show a 0;seed " + seed + ";cough " + cough + ";");
        x.go(1);
        return x.count(10);
    }

    private static void coughBelowItsNumber() {
        due.is("seed 1: 16838", numberOf(1, 0), 38);
        due.is("seed 0: 0", numberOf(0, 0), 0);
        for (int seed : new int[] {0, 1, 2, 77, 12345, 99998, 99999}) {
            long number = numberOf(seed, 0);
            if (number > 0) {
                due.is("seed " + seed + ", cough one less", coughedBy(seed, number - 1), 0);
            }
            due.is("seed " + seed + ", cough as much", coughedBy(seed, number), 0);
            due.is("seed " + seed + ", cough one more", coughedBy(seed, number + 1), 1);
            due.is("seed " + seed + ", cough 0", coughedBy(seed, 0), 0);
            due.is("seed " + seed + ", cough 100", coughedBy(seed, 100), 1);
        }
        int highest = 0;
        for (int seed = 0; seed < 2000 && highest == 0; seed++) {
            highest = numberOf(seed, 0) == 99 ? seed : 0;
        }
        due.is("there is a number 99", highest > 0, true);
        due.is("number 99, cough 99", coughedBy(highest, 99), 0);
        due.is("number 99, cough 100", coughedBy(highest, 100), 1);
        due.is("number 0, cough 1", coughedBy(0, 1), 1);
    }

    private static void noNumbersOfSilentMinutes() {
        ClapMill x = Due.mill("act a 4 2;show a 3;show a 9;show a 10;show a 99;seed 5;cough 60;");
        int[] on = {3, 4, 9, 10, 99, 100};
        int coughed = 0;
        for (int i = 0; i < on.length; i++) {
            x.go(on[i] - x.count(5));
            due.is("coughed ahead of minute " + on[i], x.count(10), coughed);
            coughed += numberOf(5, i) < 60 ? 1 : 0;
            x.go(1);
            due.is("coughed in minute " + on[i], x.count(10), coughed);
        }
        ClapMill y = Due.mill("act a 4 9;show a 0;seed 5;cough 60;");
        y.go(9);
        int nine = 0;
        for (int i = 0; i < 9; i++) {
            nine += numberOf(5, i) < 60 ? 1 : 0;
        }
        due.is("a number of each minute", y.count(10), nine);
    }

    private static void coughedMinute() {
        ClapMill x = Due.mill("act a 4 1;guest g 4 1;guest h 4 1;grain o 1 99 50;show a 0;cough 100;law turn beside + 4;law grit beside + 2;");
        x.go(1);
        due.is("sum is 0 for turn", x.count(6), 4);
        due.is("sum is 0 for grit", x.count(8), 2);
        due.is("clapped all the same", Due.guest(x, 1, 4), 5);
        ClapMill y = Due.mill("act a 4 1;guest g 4 1;guest h 4 1;show a 0;cough 100;law clap beside + 1;");
        y.go(1);
        due.is("beside is what was clapped", Due.guest(y, 1, 4), 2);
    }

    // ---- (4) "SPEED ... is E of turn (-99 .. 99; half of SPEED and SUM in sum, cut towards 0, without, with an ERROR)"

    private static int speedBy(String law, int push) {
        ClapMill x = Due.mill(law);
        if (push != 0) {
            x.push(push);
        }
        x.go(1);
        return x.count(6);
    }

    private static void speedWithinNinetyNine() {
        for (int value : new int[] {-9999, -101, -100, -99, -98, -1, 0, 1, 98, 99, 100, 101, 9999}) {
            String law = value < 0 ? "law turn 0 - " + -value + ";" : "law turn " + value + ";";
            due.is("turn " + value, speedBy(law, 0), Math.max(-99, Math.min(99, value)));
        }
        due.is("turn of the most", speedBy("law turn 1000*1000*1000*1000;", 7), 99);
        due.is("turn of the least", speedBy("law turn 0-1000*1000*1000*1000;", 7), -99);
        due.is("turn beyond an int", speedBy("law turn 4096*4096*256;", 7), 99);
        due.is("/ by 0", speedBy("law turn 9/0;", 8), 4);
        due.is("above the most", speedBy("law turn 1000*1000*1000*1000+1;", 8), 4);
        due.is("below the least", speedBy("law turn 0-1000*1000*1000*1000-1;", 8), 4);
    }

    private static void halfCutTowardsZero() {
        for (int speed : new int[] {-99, -98, -3, -2, -1, 1, 2, 3, 98, 99}) {
            due.is("half of " + speed, speedBy("", speed), speed / 2);
            due.is("half of " + speed + " with an error", speedBy("law turn 1/0;", speed), speed / 2);
        }
        for (int speed : new int[] {-99, -56, -55, -54, -53, 53, 54, 55, 99}) {
            for (int clap : new int[] {-9, 9}) {
                String six = "guest a 1 0;guest b 1 0;guest c 1 0;guest d 1 0;guest e 1 0;guest f 1 0;act a 1 1;show a 0;";
                String law = clap < 0 ? "law clap 0-9;" : "law clap 9;";
                due.is("half of " + speed + " and six times " + clap, speedBy(six + law, speed), (speed + 6 * clap) / 2);
            }
        }
    }

    // ---- (5) "the first GRAIN with SACKS left of which LOW is SPEED at most and HIGH SPEED at least"

    private static int groundAt(String grains, int speed, int grain) {
        ClapMill x = Due.mill(grains + (speed < 0 ? "law turn 0-" + -speed : "law turn " + speed) + ";");
        x.go(1);
        return x.grain(grain, 3);
    }

    private static void lowAndHigh() {
        for (int speed = 4; speed <= 10; speed++) {
            due.is("5 to 9 at " + speed, groundAt("grain o 5 9 1;", speed, 0), speed >= 5 && speed <= 9 ? 1 : 0);
            due.is("7 to 7 at " + speed, groundAt("grain o 7 7 1;", speed, 0), speed == 7 ? 1 : 0);
            due.is("8 to 6 at " + speed, groundAt("grain o 8 6 1;", speed, 0), 0);
            String two = "grain o 5 7 1;grain w 7 9 1;";
            due.is("the first of two at " + speed, groundAt(two, speed, 0), speed >= 5 && speed <= 7 ? 1 : 0);
            due.is("the second of two at " + speed, groundAt(two, speed, 1), speed >= 8 && speed <= 9 ? 1 : 0);
        }
        due.is("99 at 99", groundAt("grain o 99 99 1;", 99, 0), 1);
        due.is("99 at 98", groundAt("grain o 99 99 1;", 98, 0), 0);
        due.is("the fourth", groundAt("grain a 1 1 1;grain b 2 2 1;grain c 3 3 1;grain d 4 4 1;", 4, 3), 1);
    }

    private static void noSacksLeft() {
        due.is("none told", groundAt("grain o 1 99 0;", 5, 0), 0);
        due.is("the next one then", groundAt("grain o 1 99 0;grain w 1 99 1;", 5, 1), 1);
        ClapMill x = Due.mill("grain o 1 99 2;grain w 1 99 2;law turn 5;");
        int[] first = {1, 2, 2, 2, 2};
        int[] second = {0, 0, 1, 2, 2};
        for (int i = 0; i < 5; i++) {
            x.go(1);
            due.is("of the first behind minute " + i, x.grain(0, 3), first[i]);
            due.is("of the second behind minute " + i, x.grain(1, 3), second[i]);
            due.is("left in all behind minute " + i, x.count(7), 4 - first[i] - second[i]);
        }
    }

    private static void speedOfZeroAndOne() {
        due.is("speed 0, low 0", groundAt("grain o 0 99 1;", 0, 0), 0);
        due.is("speed 1, low 0", groundAt("grain o 0 99 1;", 1, 0), 1);
        due.is("speed 1, low 1", groundAt("grain o 1 99 1;", 1, 0), 1);
        due.is("speed 1, high 0", groundAt("grain o 0 0 1;", 1, 0), 0);
        due.is("speed -1, low 0", groundAt("grain o 0 99 1;", -1, 0), 0);
        ClapMill x = Due.mill("grain o 0 99 9;law turn 2 - minute;");
        x.go(2);
        due.is("speeds 2 and 1", x.count(8), 2);
        x.go(1);
        due.is("at speed 0 nothing comes back", x.count(8), 2);
        x.go(1);
        due.is("at speed -1 one does", x.count(8), 1);
    }

    // ---- "E of grit (by the SPEED it is now; 0 .. 9; 1 without, with an ERROR), or all that are left, are GROUND"

    private static int groundBy(String grit, int sacks) {
        ClapMill x = Due.mill("grain o 1 99 " + sacks + ";law turn 5;" + grit);
        x.go(1);
        return x.count(8);
    }

    private static void gritWithinNine() {
        for (int value : new int[] {-9999, -1, 0, 1, 2, 8, 9, 10, 9999}) {
            String law = value < 0 ? "law grit 0 - " + -value + ";" : "law grit " + value + ";";
            int want = Math.max(0, Math.min(9, value));
            for (int sacks : new int[] {0, 1, 8, 9, 10, 99}) {
                due.is("grit " + value + " of " + sacks, groundBy(law, sacks), Math.min(want, sacks));
            }
        }
        due.is("without", groundBy("", 99), 1);
        due.is("/ by 0", groundBy("law grit 9/0;", 99), 1);
        due.is("above the most", groundBy("law grit 1000*1000*1000*1000+1;", 99), 1);
        due.is("the most", groundBy("law grit 1000*1000*1000*1000;", 99), 9);
        due.is("below the least", groundBy("law grit 0-1000*1000*1000*1000-1;", 99), 1);
        due.is("the least", groundBy("law grit 0-1000*1000*1000*1000;", 99), 0);
        due.is("by the speed it is now", groundBy("law grit speed - 2;", 99), 3);
    }

    private static void gritOfZeroIsNotTheLatest() {
        for (int grit = 0; grit <= 1; grit++) {
            // Minute 0 grinds of o at 5, minute 1 none or one of w at 50, minute 2 is below 0.
            ClapMill x = Due.mill("grain o 1 9 9;grain w 40 99 9;law turn 5 + 45*(minute = 1) - 9*(minute = 2);"
                    + "law grit minute = 0 or " + grit + ";");
            x.go(2);
            due.is("grit " + grit + ": of the second", x.grain(1, 3), grit);
            x.go(1);
            due.is("grit " + grit + ": of the first then", x.grain(0, 3), grit);
            due.is("grit " + grit + ": of the second then", x.grain(1, 3), 0);
        }
        ClapMill y = Due.mill("grain o 1 9 9;law turn 5 - 9*(minute = 1);law grit 0;");
        y.go(2);
        due.is("none was ground", y.count(8), 0);
        due.is("all are left", y.count(7), 9);
    }

    // ---- "SPEED below 0: of the GRAIN that was GROUND latest ... one SACK comes back, if one of it is GROUND"

    private static void oneComesBack() {
        ClapMill x = Due.mill("grain o 1 9 9;grain w 40 99 9;law turn 5*(minute = 0) + 50*(minute = 1) - 99*(minute > 1);law grit 2;");
        x.go(2);
        int[] second = {1, 0, 0, 0};
        for (int i = 0; i < second.length; i++) {
            x.go(1);
            due.is("of the latest behind minute " + i, x.grain(1, 3), second[i]);
            due.is("none of any other behind minute " + i, x.grain(0, 3), 2);
            due.is("left of the latest behind minute " + i, x.grain(1, 2), 9 - second[i]);
        }
        // What came back can be ground again, and then comes back again.
        ClapMill y = Due.mill("grain o 1 9 1;law turn 5 - 9*(minute = 1) - 9*(minute = 3);");
        int[] ground = {1, 0, 1, 0, 1, 1};
        for (int i = 0; i < ground.length; i++) {
            y.go(1);
            due.is("of a single sack behind minute " + i, y.count(8), ground[i]);
        }
    }

    private static void noneComesBack() {
        ClapMill x = Due.mill("grain o 1 9 9;law turn 0-5;");
        x.go(5);
        due.is("none was ground", x.count(8), 0);
        due.is("none more than told is left", x.grain(0, 2), 9);
        ClapMill y = Due.mill("law turn 0-5;");
        y.go(5);
        due.is("no grains", y.count(7), 0);
        ClapMill z = Due.mill("grain o 1 9 9;law turn 5;");
        z.go(3);
        Due.tell(z, "grain o 1 9 9;law turn 0-5;");
        z.go(1);
        due.is("none was ground by the new text", z.count(8), 0);
    }

    // ---- "all as they are by then"

    private static void namesAsTheyAreByThen() {
        // Clap: speed ahead of the turn, tired ahead of these claps; grit: the speed and the sacks of now.
        ClapMill x = Due.mill("act a 7 9;guest g 2 3;grain o 1 99 99;show a 0;law clap speed + tired + minute + 1;law turn 6;law grit tired + 1;");
        x.go(1);
        due.is("speed 0, tired 0, minute 0", Due.guest(x, 0, 4), 1);
        due.is("no sacks ground yet", x.count(8), 1);
        x.go(1);
        due.is("speed 6, tired 1, minute 1", Due.guest(x, 0, 4), 9);
        due.is("one ground yet", x.count(8), 3);
        ClapMill y = Due.mill("act a 7 9;guest g 2 3;guest h 4 5;grain o 1 99 99;show a 1;law turn taste + hunger + mood*10 + tired;law grit taste + hunger + 2;");
        y.go(1);
        due.is("turn: mood 0 with nothing on, no taste, no hunger", y.count(6), 0);
        y.go(1);
        due.is("turn: mood 7", y.count(6), 70);
        due.is("grit: no taste, no hunger", y.count(8), 2);
        y.go(1);
        due.is("turn: tired is the sacks ground", y.count(6), 72);
        // Turn and grit have no guest, though guests clapped by theirs just ahead of it.
        ClapMill w = Due.mill("act a 7 9;guest g 2 3;grain o 1 99 99;show a 0;law clap taste + hunger;law turn 4 + taste*9 + hunger*9;"
                + "law grit 1 + taste + hunger;");
        w.go(1);
        due.is("claps by taste and hunger", Due.guest(w, 0, 4), 5);
        due.is("turn: not by those", w.count(6), 4);
        due.is("grit: not by those", w.count(8), 1);
        due.is("law(0) by them", w.law(0, 0), 5);
        due.is("law(1) not by them", w.law(1, 0), 4);
        due.is("law(0) again", w.law(0, 0), 5);
        due.is("law(2) not by them", w.law(2, 0), 1);
        ClapMill z = Due.mill("law turn minute;");
        z.go(99);
        due.is("minute 98", z.count(6), 98);
        z.go(1);
        due.is("minute 99", z.count(6), 99);
    }

    // ---- "ERROR: / by 0, a value above 10 to the 12 or below 0 by more than that"; "/ is cut towards 0"

    private static void worth(String phrase, long want) {
        due.is(phrase, Due.mill("law turn " + phrase + ";").law(1, 0), want);
    }

    private static void valuesWithinTheLimit() {
        long most = 1000000000000L;
        worth("1000*1000*1000*1000-1", most - 1);
        worth("1000*1000*1000*1000", most);
        worth("1000*1000*1000*1000+0", most);
        worth("1000*1000*1000*1000+1", ERROR);
        worth("1000*1000*1000*1000+1-1", ERROR);
        worth("1+1000*1000*1000*1000", ERROR);
        worth("0-1000*1000*1000*1000+1", 1 - most);
        worth("0-1000*1000*1000*1000", -most);
        worth("0-1000*1000*1000*1000-1", ERROR);
        worth("0-1000*1000*1000*1000-1+1", ERROR);
        worth("1000*1000*1000*1000*1", most);
        worth("1000*1000*1000*1000*2", ERROR);
        worth("1000*1000*1000*1000*0", 0);
        worth("0*(1000*1000*1000*1000+1)", ERROR);
        worth("1000*1000*1000*1000*(1000*1000*1000*1000)", ERROR);
        worth("(0-1000*1000*1000*1000)*(1000*1000*1000*1000)", ERROR);
        worth("(0-1000*1000*1000*1000)*(0-1000*1000*1000*1000)", ERROR);
        worth("(0-1000*1000)*(0-1000*1000)", most);
        worth("(0-1000*1000)*(0-1000*1000-1)", ERROR);
        worth("1000*1000*(0-1000*1000-1)", ERROR);
        worth("1000*1000*1000*1000/1", most);
        worth("1000*1000*1000*1000/(0-1)", -most);
        worth("1/0", ERROR);
        worth("0/0", ERROR);
        worth("0/1", 0);
        worth("7/7", 1);
        worth("6/7", 0);
        worth("(0-6)/7", 0);
        worth("(0-7)/7", -1);
        worth("(0-13)/7", -1);
        worth("13/(0-7)", -1);
        worth("(0-13)/(0-7)", 1);
        worth("1/(1-1)", ERROR);
        worth("0 and 1/0", ERROR);
        worth("1/0 and 0", ERROR);
        worth("1 or 1/0", ERROR);
        worth("not 1/0", ERROR);
        worth("1/0 = 1/0", ERROR);
        worth("1000*1000*1000*1000+1 > 0", ERROR);
    }

    private static void comparisons() {
        String[] signs = {"<", "<=", "=", "<>", ">=", ">"};
        for (int a = 4; a <= 6; a++) {
            boolean[] want = {a < 5, a <= 5, a == 5, a != 5, a >= 5, a > 5};
            for (int i = 0; i < signs.length; i++) {
                worth(a + signs[i] + "5", want[i] ? 1 : 0);
                worth("(0-5)" + signs[i] + "(0-" + a + ")", want[i] ? 1 : 0);
            }
        }
        worth("not 0", 1);
        worth("not 1", 0);
        worth("not 2", 0);
        worth("not (0-1)", 0);
        worth("(0-1) and 2", 1);
        worth("(0-1) or 0", 1);
        worth("0 and 0", 0);
        worth("0 and 1", 0);
        worth("1 and 0", 0);
        worth("0 or 0", 0);
        worth("0 or 1", 1);
        worth("1 or 0", 1);
        worth("1000*1000*1000*1000 > 1000*1000*1000*1000-1", 1);
    }

    // ---- promise 6

    private static void guests() {
        ClapMill x = Due.mill(FULL);
        for (int guest = 0; guest < 6; guest++) {
            int[] want = {guest, guest + 1, guest, 0, 0};
            for (int what = 0; what < 5; what++) {
                due.is("guest " + guest + ", " + what, Due.guest(x, guest, what), want[what]);
            }
            for (int what : new int[] {MIN, -2, -1, 5, 6, MAX}) {
                due.is("guest " + guest + ", no such what " + what, Due.guest(x, guest, what), 1002);
            }
        }
        for (int guest : new int[] {MIN, -2, -1, 6, 7, MAX}) {
            for (int what : new int[] {MIN, -1, 0, 4, 5, MAX}) {
                due.is("no such guest " + guest + ", " + what, Due.guest(x, guest, what), 1001);
            }
        }
        ClapMill y = Due.mill("guest a 1 1;");
        due.is("a single guest", Due.guest(y, 0, 0), 1);
        due.is("no second", Due.guest(y, 1, 0), 1001);
        ClapMill z = Due.mill("act a 9 1;guest a 0 0;guest b 9 0;show a 1;");
        int[] first = {0, 0, -4, 0};
        for (int minutes = 0; minutes < 4; minutes++) {
            due.is("clapped in the last minute, behind " + minutes, Due.guest(z, 0, 4), first[minutes]);
            due.is("go(0) is none", z.go(0), minutes);
            due.is("clapped still, behind " + minutes, Due.guest(z, 0, 4), first[minutes]);
            z.go(1);
        }
    }

    // ---- promises 7 and 8

    private static void acts() {
        ClapMill x = Due.mill(FULL);
        int[] lengths = {1, 2, 3, 4, 5, 9};
        for (int act = 0; act < 6; act++) {
            due.is("mood of " + act, x.act(act, 0), act);
            due.is("length of " + act, x.act(act, 1), lengths[act]);
            due.is(act + " isn't on", x.act(act, 2), 0);
            for (int what : new int[] {MIN, -2, -1, 3, 4, MAX}) {
                due.is("act " + act + ", no such what " + what, x.act(act, what), NONE);
            }
        }
        for (int act : new int[] {MIN, -2, -1, 6, 7, MAX}) {
            for (int what : new int[] {-1, 0, 1, 2, 3}) {
                due.is("no such act " + act + ", " + what, x.act(act, what), NONE);
            }
        }
        x.stage(5);
        due.is("on", x.act(5, 2), 9);
        due.is("another isn't", x.act(4, 2), 0);
        x.go(8);
        due.is("the last minute", x.act(5, 2), 1);
        x.go(1);
        due.is("over", x.act(5, 2), 0);
    }

    private static void grains() {
        ClapMill x = Due.mill(FULL);
        for (int grain = 0; grain < 4; grain++) {
            int[] want = {grain, grain + 1, grain + 2, 0};
            for (int what = 0; what < 4; what++) {
                due.is("grain " + grain + ", " + what, x.grain(grain, what), want[what]);
            }
            for (int what : new int[] {MIN, -2, -1, 4, 5, MAX}) {
                due.is("grain " + grain + ", no such what " + what, x.grain(grain, what), NONE);
            }
        }
        for (int grain : new int[] {MIN, -2, -1, 4, 5, MAX}) {
            for (int what : new int[] {-1, 0, 1, 2, 3, 4}) {
                due.is("no such grain " + grain + ", " + what, x.grain(grain, what), NONE);
            }
        }
    }

    // ---- promise 9: "Long.MIN_VALUE: an ERROR, no such law, no such one"

    private static void laws() {
        ClapMill x = Due.mill(FULL + "law clap taste + 1/(6 - mood*9);law turn beside + 4;law grit 1/speed;");
        for (int guest = 0; guest < 6; guest++) {
            due.is("clap of " + guest, x.law(0, guest), guest);
        }
        for (int guest : new int[] {MIN, -2, -1, 6, 7, MAX}) {
            due.is("clap of no such guest " + guest, x.law(0, guest), ERROR);
            due.is("turn, guest " + guest + " not looked at", x.law(1, guest), 4);
            due.is("grit: an error", x.law(2, guest), ERROR);
        }
        for (int what : new int[] {MIN, -2, -1, 3, 4, MAX}) {
            due.is("no such law " + what, x.law(what, 0), ERROR);
        }
        x.push(1);
        due.is("grit: 1/1", x.law(2, 0), 1);
        String[] laws = {"law clap 3;", "law turn 3;", "law grit 3;"};
        for (int told = 0; told < 3; told++) {
            for (int what = 0; what < 3; what++) {
                ClapMill y = Due.mill("guest g 1 1;" + laws[told]);
                due.is("law " + what + " by " + laws[told], y.law(what, 0), what == told ? 3 : ERROR);
            }
        }
        ClapMill z = Due.mill("guest g 1 1;act a 4 1;law clap 1000*mood + beside;law turn 1000*mood;");
        due.is("nothing on: mood 0", z.law(0, 0), 0);
        z.stage(0);
        due.is("no bounds: 4000", z.law(0, 0), 4000);
        due.is("turn: 4000", z.law(1, 0), 4000);
        z.go(1);
        due.is("over: mood 0", z.law(0, 0), 0);
    }

    // ---- promise 10

    private static void staging() {
        int[] lengths = {1, 2, 3, 4, 5, 9};
        for (int act = 0; act < 6; act++) {
            ClapMill x = Due.mill(FULL);
            due.is("stage(" + act + ")", x.stage(act), lengths[act]);
            due.is("it is on", x.count(12), act);
            for (int other = 0; other < 6; other++) {
                due.is("something is on", x.stage(other), -2);
            }
            due.is("it is on still", x.act(act, 2), lengths[act]);
            due.is("one to undo", x.count(15), 1);
            x.go(lengths[act] - 1);
            due.is("its last minute is still to come", x.stage(0), -2);
            x.go(1);
            due.is("it is over", x.count(12), -2);
            due.is("the next one", x.stage(1), 2);
        }
        ClapMill y = Due.mill(FULL);
        for (int act : new int[] {MIN, -2, -1, 6, 7, MAX}) {
            due.is("no such act " + act, y.stage(act), NONE);
            due.is("nothing is on", y.count(12), -2);
            due.is("nothing to undo", y.count(15), 0);
        }
        y.stage(2);
        for (int act : new int[] {MIN, -1, 6, MAX}) {
            due.is("no such act " + act + " while one is on", y.stage(act), NONE);
        }
        due.is("it is on still", y.act(2, 2), 3);
    }

    // ---- promise 11

    private static void changing() {
        ClapMill x = Due.mill(FULL);
        int[] wrong = {MIN, -2, -1, 6, 7, MAX};
        for (int one : wrong) {
            for (int other : new int[] {MIN, -1, 0, 5, 6, MAX}) {
                due.is("change(" + one + ", " + other + ")", x.change(one, other), NONE);
                due.is("change(" + other + ", " + one + ")", x.change(other, one), NONE);
            }
        }
        for (int guest = 0; guest < 6; guest++) {
            due.is("alike " + guest, x.change(guest, guest), NONE);
            due.is("seat of " + guest + " stays", Due.guest(x, guest, 2), guest);
        }
        due.is("nothing to undo", x.count(15), 0);
        due.is("the first and the last", x.change(0, 5), 5);
        due.is("seat of the last", Due.guest(x, 5, 2), 0);
        due.is("the last and the first", x.change(5, 0), 5);
        due.is("seat of the first", Due.guest(x, 0, 2), 0);
        due.is("two to undo", x.count(15), 2);
        due.is("a single guest", Due.mill("guest a 1 1;").change(0, 1), NONE);
    }

    // ---- promise 12: "SPEED is more by -99 .. 99, from -99 to 99 then"

    private static void pushing() {
        ClapMill x = new ClapMill();
        for (int by : new int[] {MIN, MIN + 1, -1000, -101, -100, 0, 100, 101, 1000, MAX - 1, MAX}) {
            due.is("push(" + by + ")", x.push(by), LOW);
            due.is("speed stays", x.count(6), 0);
            due.is("nothing to undo", x.count(15), 0);
        }
        for (int by : new int[] {-99, -98, -1, 1, 98, 99}) {
            ClapMill y = new ClapMill();
            due.is("push(" + by + ")", y.push(by), by);
            due.is("speed", y.count(6), by);
        }
        int[] steps = {98, 1, 1, 99, -98, -1, -99, -1, -99, 99, 99};
        int[] speeds = {98, 99, 99, 99, 1, 0, -99, -99, -99, 0, 99};
        ClapMill z = new ClapMill();
        for (int i = 0; i < steps.length; i++) {
            due.is("push " + i + " by " + steps[i], z.push(steps[i]), speeds[i]);
            due.is("speed behind push " + i, z.count(6), speeds[i]);
        }
    }

    // ---- promise 13: "So many MINUTES (0 .. 200) go by ... NONE, and none does: no such number, behind 9000"

    private static void going() {
        ClapMill x = Due.mill("act a 1 1;guest g 1 0;show a 0;");
        for (int n : new int[] {MIN, -2, -1, 201, 202, 1000, 9000, 9001, MAX}) {
            due.is("go(" + n + ")", x.go(n), NONE);
            due.is("none does", x.count(5), 0);
            due.is("nobody is tired", x.count(11), 0);
        }
        due.is("go(0)", x.go(0), 0);
        due.is("nobody is tired", x.count(11), 0);
        due.is("go(1)", x.go(1), 1);
        due.is("go(199)", x.go(199), 200);
        due.is("go(200)", x.go(200), 400);
        for (int i = 3; i <= 44; i++) {
            x.go(200);
        }
        due.is("minute 8800", x.go(0), 8800);
        due.is("go(198)", x.go(198), 8998);
        due.is("three more are behind 9000", x.go(3), NONE);
        due.is("none went by", x.count(5), 8998);
        due.is("two more", x.go(2), 9000);
        due.is("go(0) there", x.go(0), 9000);
        due.is("go(1) there", x.go(1), NONE);
        due.is("go(200) there", x.go(200), NONE);
        due.is("9000 still", x.count(5), 9000);
        due.is("ahead of it there is more", x.ahead(200, 2, 0), 0);
        ClapMill y = new ClapMill();
        for (int i = 0; i < 45; i++) {
            y.go(200);
        }
        due.is("just 9000 by 200 each", y.count(5), 9000);
        y.push(5);
        due.is("go(1) is refused", y.go(1), NONE);
        due.is("what can be undone stays", y.count(15), 1);
        due.is("undo", y.undo(), 0);
    }
}
