/**
 * Promises 27 to 33 and the second half of the document's section 3: each limit of what was seen, struck and
 * known, of moods, asking, chance and what is tried, at it and a step to each side of it.
 */
public final class SeenEdgeTest {
    private static final int NONE = ClapMill.NONE;
    private static final int MIN = Integer.MIN_VALUE;
    private static final int MAX = Integer.MAX_VALUE;
    private static final Due due = new Due();

    /** Mood m grinds m sacks in minute 0, none later; act b is never on. */
    private static final String BY_MOOD = "act a 3 1;act b 3 1;grain o 1 99 99;show a 0;law turn mood;law grit mood;";

    public static void main(String[] args) {
        seeOfMinutes();
        seeOfSacks();
        seeTwentyFour();
        strikeOfWrongOnes();
        strikeTwentyFour();
        strikesOfStrikes();
        knownByN();
        knownByAllToCome();
        moodsAtLeastOrFewer();
        moodsOfMinutes();
        moodsOfWrongOnes();
        moodsFromTheTextOn();
        moodsLeaveTheMoodTold();
        askOfWrongOnes();
        askOfMinutes();
        askAtWorst();
        askOfNone();
        chanceOfWrongOnes();
        chanceOfSeeds();
        chanceOfMinutesAndSacks();
        chanceWithoutNumbers();
        triedOfWrongOnes();
        triedOfMinutes();
        triedCoughs();
        triedMute();
        triedRunsBack();
        triedHunger();
        due.end();
    }

    // ---- promise 27: "behind so many MINUTES 1 .. 60 ... so many SACKS 0 .. 999"; "at most 24"

    private static void seeOfMinutes() {
        ClapMill x = Due.mill(BY_MOOD);
        for (int minutes : new int[] {MIN, -2, -1, 0, 61, 62, MAX}) {
            due.is("see(" + minutes + ", 0, true)", x.see(minutes, 0, true), NONE);
            due.is("none was seen", x.count(13), 0);
        }
        int number = 0;
        for (int minutes : new int[] {1, 2, 59, 60}) {
            due.is("see(" + minutes + ", 0, true)", x.see(minutes, 0, true), number);
            number++;
            due.is("so many are seen", x.count(13), number);
        }
    }

    private static void seeOfSacks() {
        ClapMill x = Due.mill(BY_MOOD);
        for (int sacks : new int[] {MIN, -2, -1, 1000, 1001, MAX}) {
            due.is("see(1, " + sacks + ", false)", x.see(1, sacks, false), NONE);
            due.is("none was seen", x.count(13), 0);
        }
        int number = 0;
        for (int sacks : new int[] {0, 1, 998, 999}) {
            due.is("see(1, " + sacks + ", false)", x.see(1, sacks, false), number);
            number++;
        }
    }

    private static void seeTwentyFour() {
        ClapMill x = Due.mill(BY_MOOD);
        for (int i = 0; i < 24; i++) {
            due.is("see " + i, x.see(1, 2, true), i);
        }
        int moods = x.moods(0);
        due.is("a 25th", x.see(1, 9, true), NONE);
        due.is("a 25th, struck", x.strike(0), NONE);
        due.is("24", x.count(13), 24);
        due.is("known by 24", x.count(14), 24);
        due.is("moods stay", x.moods(0), moods);
        due.is("known(24)", x.known(24), true);
        due.is("known(25)", x.known(25), false);
        Due.tell(x, BY_MOOD);
        due.is("nothing seen by a new text", x.see(1, 2, true), 0);
    }

    // ---- promise 28

    private static void strikeOfWrongOnes() {
        ClapMill x = Due.mill(BY_MOOD);
        due.is("none was seen", x.strike(0), NONE);
        due.is("none still", x.count(13), 0);
        x.see(1, 4, true);
        x.see(1, 5, true);
        for (int seen : new int[] {MIN, -2, -1, 2, 3, 24, MAX}) {
            due.is("strike(" + seen + ")", x.strike(seen), NONE);
            due.is("two were seen", x.count(13), 2);
            due.is("moods stay", x.moods(0), 992);
        }
        due.is("strike the last", x.strike(1), 2);
        due.is("the other one counts", x.moods(0), 1008);
        due.is("a strike can be struck at once", x.strike(2), 3);
        due.is("both count", x.moods(0), 992);
    }

    private static void strikeTwentyFour() {
        ClapMill x = Due.mill(BY_MOOD);
        x.see(1, 4, true);
        // Each strike strikes the one ahead of it: the last one of all tells which count.
        for (int i = 1; i < 24; i++) {
            due.is("strike " + i, x.strike(i - 1), i);
            due.is("moods by " + i + " strikes", x.moods(0), i % 2 == 1 ? 1023 : 1008);
        }
        due.is("there are 24", x.strike(23), NONE);
        due.is("there are 24", x.see(1, 1, true), NONE);
        due.is("24 still", x.count(13), 24);
        for (int n = 0; n <= 24; n++) {
            due.is("known(" + n + ")", x.known(n), true);
            due.is("moods by the first " + n, x.moods(0), n == 0 || n % 2 == 0 ? 1023 : 1008);
        }
    }

    /** "a STRIKE may be STRUCK: then it doesn't count; asked from the last one on" */
    private static void strikesOfStrikes() {
        ClapMill x = Due.mill(BY_MOOD);
        x.see(1, 4, true);
        x.strike(0);
        x.strike(0);
        due.is("struck twice", x.moods(0), 1023);
        x.strike(1);
        due.is("one of both is struck", x.moods(0), 1023);
        x.strike(2);
        due.is("both are", x.moods(0), 1008);
        x.strike(4);
        due.is("one counts again", x.moods(0), 1023);
        x.strike(5);
        due.is("none counts again", x.moods(0), 1008);
        x.known(4);
        due.is("by the first four one counts", x.moods(0), 1023);
        x.known(5);
        due.is("by the first five none does", x.moods(0), 1008);
    }

    // ---- promise 29: "KNOWN by n from now on (-1: by all, also those to come): true; false: no such n"

    private static void knownByN() {
        ClapMill x = Due.mill(BY_MOOD);
        for (int n : new int[] {MIN, -3, -2, 1, 2, 24, MAX}) {
            due.is("known(" + n + ") of none", x.known(n), false);
        }
        due.is("known(0) of none", x.known(0), true);
        due.is("known(-1) of none", x.known(-1), true);
        x.see(1, 2, true);
        x.see(1, 4, true);
        x.see(1, 6, true);
        int[] moods = {1023, 1020, 1008, 960};
        for (int n = 0; n <= 3; n++) {
            due.is("known(" + n + ")", x.known(n), true);
            due.is("by " + n, x.count(14), n);
            due.is("moods by " + n, x.moods(0), moods[n]);
            due.is("ask by " + n, x.ask(0, 1), 1);
        }
        x.known(2);
        for (int n : new int[] {MIN, -3, -2, 4, 5, 24, 25, MAX}) {
            due.is("known(" + n + ")", x.known(n), false);
            due.is("by 2 still", x.count(14), 2);
            due.is("moods by 2 still", x.moods(0), 1008);
        }
        due.is("three are seen", x.count(13), 3);
    }

    private static void knownByAllToCome() {
        ClapMill x = Due.mill(BY_MOOD);
        x.see(1, 2, true);
        due.is("all at first, those to come with", x.count(14), 1);
        x.known(1);
        x.see(1, 4, true);
        due.is("by 1, not those to come", x.count(14), 1);
        due.is("moods by 1", x.moods(0), 1020);
        due.is("known(-1)", x.known(-1), true);
        due.is("by both", x.count(14), 2);
        due.is("moods by both", x.moods(0), 1008);
        x.see(1, 6, true);
        due.is("by all three", x.count(14), 3);
        due.is("moods by all three", x.moods(0), 960);
        x.known(0);
        x.strike(0);
        due.is("by none", x.count(14), 0);
        due.is("moods by none", x.moods(0), 1023);
        Due.tell(x, BY_MOOD);
        x.see(1, 2, true);
        due.is("all by a new text", x.count(14), 1);
    }

    // ---- promise 30

    private static void moodsAtLeastOrFewer() {
        for (int sacks = 0; sacks <= 11; sacks++) {
            ClapMill x = Due.mill(BY_MOOD);
            x.see(1, sacks, true);
            int enough = 0;
            for (int mood = 0; mood <= 9; mood++) {
                enough |= mood >= sacks ? 1 << mood : 0;
            }
            due.is("at least " + sacks, x.moods(0), enough);
            ClapMill y = Due.mill(BY_MOOD);
            y.see(1, sacks, false);
            due.is("fewer than " + sacks, y.moods(0), 1023 - enough);
            due.is("of an act never on: mood 3 as told", y.moods(1), sacks > 3 ? 1023 : 0);
            y.see(1, sacks, true);
            due.is("both can't be", y.moods(0), 0);
        }
        ClapMill z = Due.mill(BY_MOOD);
        z.see(1, 999, false);
        due.is("fewer than 999", z.moods(0), 1023);
        z.see(60, 999, true);
        due.is("999 at least", z.moods(0), 0);
    }

    private static void moodsOfMinutes() {
        // Mood m lets the act's sack be ground in minute 50 + m: it is seen behind 51 + m minutes.
        ClapMill x = Due.mill("act a 3 9;act b 1 1;grain o 1 99 99;show a 50;law turn mood = minute - 50;");
        for (int minutes : new int[] {1, 50, 51, 52, 58, 59}) {
            ClapMill y = Due.mill("act a 3 9;grain o 1 99 99;show a 50;law turn mood = minute - 50 and mood > 0;");
            y.see(minutes, 1, true);
            int bits = 0;
            for (int mood = 1; mood <= 8; mood++) {
                bits |= 51 + mood <= minutes ? 1 << mood : 0;
            }
            due.is("a sack behind " + minutes + " minutes", y.moods(0), bits);
        }
        x.see(60, 9, true);
        due.is("nine behind 60 minutes", x.moods(0) + x.moods(1), 0);
        ClapMill z = Due.mill("grain o 1 99 99;act a 1 1;law turn 1;");
        z.see(60, 60, true);
        z.see(1, 1, true);
        due.is("60 behind 60, 1 behind 1", z.moods(0), 1023);
        z.see(59, 60, true);
        due.is("not 60 behind 59", z.moods(0), 0);
        ClapMill w = Due.mill("grain o 1 99 99;act a 1 1;law turn 1;");
        w.see(60, 61, true);
        due.is("not 61 behind 60", w.moods(0), 0);
    }

    private static void moodsOfWrongOnes() {
        ClapMill x = Due.mill("act a 1 1;act b 1 1;act c 1 1;act d 1 1;act e 1 1;act f 1 1;");
        for (int act : new int[] {MIN, -2, -1, 6, 7, MAX}) {
            due.is("moods(" + act + ")", x.moods(act), NONE);
        }
        for (int act = 0; act < 6; act++) {
            due.is("moods(" + act + ")", x.moods(act), 1023);
        }
        due.is("no acts", new ClapMill().moods(0), NONE);
    }

    /** "as it goes from the TEXT on, nothing done by call" */
    private static void moodsFromTheTextOn() {
        ClapMill x = Due.mill(BY_MOOD);
        x.see(1, 5, true);
        x.see(2, 9, false);
        int moods = x.moods(0);
        int ask = x.ask(0, 1);
        due.is("5 to 8", moods, 480);
        x.push(50);
        due.is("moods though pushed", x.moods(0), moods);
        x.stage(1);
        due.is("moods though staged", x.moods(0), moods);
        x.go(7);
        due.is("moods though minutes went by", x.moods(0), moods);
        due.is("ask though minutes went by", x.ask(0, 1), ask);
        due.is("moods of b: mood 3 as told", x.moods(1), 0);
        due.is("mood told stays", x.act(0, 0), 3);
        ClapMill y = Due.mill("act a 3 1;guest g 3 0;guest h 9 0;grain o 1 99 99;show a 0;law clap 2 + beside - 3*(taste = 3);law turn beside;law grit 1;");
        y.see(1, 1, true);
        int seated = y.moods(0);
        y.change(0, 1);
        due.is("moods though seats were changed", y.moods(0), seated);
    }

    /** What is asked behind it goes by the MOOD told again. */
    private static void moodsLeaveTheMoodTold() {
        ClapMill x = Due.mill(BY_MOOD);
        ClapMill y = Due.mill(BY_MOOD);
        for (int act = 0; act < 2; act++) {
            x.moods(act);
            due.is("ahead", x.ahead(1, 0, 0), 3);
            y.ask(act, 0);
            due.is("chance: three", y.chance(1, 1, 3), 10);
            due.is("chance: not four", y.chance(1, 1, 4), 0);
            due.is("tried", y.tried(0, 0, 1), 3);
            due.is("flour of four", y.flour(4), -2);
            due.is("bill: three of each", y.bill(4), 6);
            x.stage(0);
            x.moods(act);
            due.is("law of what is on", x.law(1, 0), 3);
            x.undo();
        }
        x.ask(0, 1);
        x.go(1);
        due.is("go", x.count(8), 3);
    }

    // ---- promise 31

    private static void askOfWrongOnes() {
        ClapMill x = Due.mill("act a 1 1;act b 1 1;act c 1 1;act d 1 1;act e 1 1;act f 1 1;");
        for (int act : new int[] {MIN, -2, -1, 6, 7, MAX}) {
            due.is("ask(" + act + ", 0)", x.ask(act, 0), NONE);
            due.is("ask(" + act + ", 1)", x.ask(act, 1), NONE);
        }
        for (int what : new int[] {MIN, -2, -1, 2, 3, MAX}) {
            due.is("ask(0, " + what + ")", x.ask(0, what), NONE);
        }
        for (int act = 0; act < 6; act++) {
            due.is("the first of several", x.ask(act, 0), 1);
            due.is("all are left", x.ask(act, 1), 10);
        }
        due.is("no acts", new ClapMill().ask(0, 0), NONE);
    }

    private static void askOfMinutes() {
        for (int minute : new int[] {0, 1, 57, 58, 59, 60}) {
            ClapMill x = Due.mill("act a 0 1;grain o 1 99 99;show a " + minute + ";law turn mood;law grit mood;");
            due.is("all part in minute " + minute, x.ask(0, 0), minute < 60 ? minute + 1 : 1);
            due.is("left at worst", x.ask(0, 1), minute < 60 ? 1 : 10);
        }
    }

    private static void askAtWorst() {
        // Behind 1: 9 apart from nine. Behind 2: 0 to 4 and 9, 5 to 8. Behind 3: 0 1 2 9, 3 4, 5, 6 7 8.
        ClapMill x = Due.mill("act a 0 9;grain o 1 99 99;show a 0;law turn 1;"
                + "law grit (minute = 0)*(mood = 9) + (minute = 1)*(mood < 5) + (minute = 2)*(mood/3 = 1)*3;");
        due.is("behind 3", x.ask(0, 0), 3);
        due.is("left at worst", x.ask(0, 1), 4);
        x.see(1, 1, false);
        due.is("mood 9 is out", x.ask(0, 1), 3);
        x.see(3, 4, true);
        due.is("3 and 4", x.moods(0), 24);
        due.is("nothing parts them: behind 1", x.ask(0, 0), 1);
        due.is("both are left", x.ask(0, 1), 2);
    }

    /** "1 and 0, if there are none" */
    private static void askOfNone() {
        ClapMill x = Due.mill("act a 0 1;grain o 1 99 99;show a 5;law turn mood;law grit mood;");
        due.is("behind 6", x.ask(0, 0), 6);
        x.see(6, 4, true);
        x.see(6, 5, false);
        due.is("a single one is left: behind 1", x.ask(0, 0), 1);
        due.is("that one", x.ask(0, 1), 1);
        x.see(6, 4, false);
        due.is("no moods", x.moods(0), 0);
        due.is("none: 1", x.ask(0, 0), 1);
        due.is("none: 0", x.ask(0, 1), 0);
        x.strike(2);
        due.is("one again", x.ask(0, 1), 1);
    }

    // ---- promise 32

    private static final String DRAWN = "act a 4 9;guest g 4 0;grain o 1 99 99;show a 0;show a 9;show a 18;show a 27;law turn beside;";

    private static int drawn(long seed, int n, int sacks, int cough) {
        long last = seed;
        int times = 0;
        for (int k = 0; k < 10; k++) {
            int ground = 0;
            for (int i = 0; i < Math.min(n, 36); i++) {
                last = (last * 1103515245L + 12345) % (1L << 31);
                ground += last / 65536 % 100 < cough ? 0 : 1;
            }
            times += ground >= sacks ? 1 : 0;
        }
        return times;
    }

    private static void chanceOfWrongOnes() {
        ClapMill x = Due.mill(DRAWN + "cough 50;");
        for (int seed : new int[] {MIN, MIN + 1, -2, -1}) {
            due.is("seed " + seed, x.chance(seed, 5, 2), NONE);
        }
        for (int n : new int[] {MIN, -2, -1, 0, 100, 101, MAX}) {
            due.is("n " + n, x.chance(1, n, 0), NONE);
        }
        for (int sacks : new int[] {MIN, -2, -1, 1000, 1001, MAX}) {
            due.is("sacks " + sacks, x.chance(1, 5, sacks), NONE);
        }
    }

    private static void chanceOfSeeds() {
        ClapMill x = Due.mill(DRAWN + "cough 50;");
        for (int seed : new int[] {0, 1, 99999, 100000, MAX - 1, MAX}) {
            for (int sacks = 1; sacks <= 5; sacks++) {
                due.is("seed " + seed + ", sacks " + sacks, x.chance(seed, 5, sacks), drawn(seed, 5, sacks, 50));
            }
        }
        due.is("asking takes no numbers", x.chance(7, 5, 3), x.chance(7, 5, 3));
    }

    private static void chanceOfMinutesAndSacks() {
        ClapMill x = Due.mill(DRAWN + "cough 30;");
        for (int n : new int[] {1, 2, 35, 36, 37, 98, 99}) {
            due.is("n " + n + ", 0 sacks", x.chance(3, n, 0), 10);
            due.is("n " + n + ", half", x.chance(3, n, (n + 1) / 2), drawn(3, n, (n + 1) / 2, 30));
            due.is("n " + n + ", 24 sacks", x.chance(3, n, 24), drawn(3, n, 24, 30));
            due.is("n " + n + ", 998 sacks", x.chance(3, n, 998), 0);
            due.is("n " + n + ", 999 sacks", x.chance(3, n, 999), 0);
        }
        // From now: of a hall in minute 35 one minute with a number is left.
        x.go(35);
        int ground = x.count(8);
        int coughed = x.count(10);
        due.is("as many as now", x.chance(0, 99, ground), 10);
        due.is("one more: numbers of a single minute each", x.chance(0, 99, ground + 1), drawn(0, 1, 1, 30));
        due.is("two more", x.chance(0, 99, ground + 2), 0);
        due.is("nothing was coughed by asking", x.count(10), coughed);
        due.is("no minute went by", x.count(5), 35);
    }

    private static void chanceWithoutNumbers() {
        due.is("cough 0", Due.mill(DRAWN).chance(5, 36, 36), 10);
        due.is("cough 0: one more", Due.mill(DRAWN).chance(5, 36, 37), 0);
        due.is("cough 100", Due.mill(DRAWN + "cough 100;").chance(5, 36, 1), 0);
        due.is("cough 100: none", Due.mill(DRAWN + "cough 100;").chance(5, 36, 0), 10);
        due.is("cough 99", Due.mill(DRAWN + "cough 99;").chance(5, 36, 1), drawn(5, 36, 1, 99));
        due.is("cough 1", Due.mill(DRAWN + "cough 1;").chance(5, 36, 36), drawn(5, 36, 36, 1));
        due.is("nothing on", Due.mill("cough 50;grain o 1 99 9;law turn 1;").chance(5, 9, 9), 10);
    }

    // ---- promise 33

    private static final String SIX = "guest a 1 0;guest b 1 0;guest c 1 0;guest d 1 0;guest e 1 0;guest f 1 0;";

    private static void triedOfWrongOnes() {
        ClapMill x = Due.mill("act a 1 9;" + SIX + "grain o 1 99 99;show a 0;");
        for (int what : new int[] {MIN, -2, -1, 5, 6, MAX}) {
            due.is("tried(" + what + ", 0, 5)", x.tried(what, 0, 5), NONE);
        }
        for (int what = 0; what <= 4; what++) {
            for (int i : new int[] {MIN, -2, -1, 1, 5, 6, 7, MAX}) {
                boolean isGuest = what == 2 && i >= 0 && i < 6;
                due.is("tried(" + what + ", " + i + ", 5)", x.tried(what, i, 5), isGuest ? 5 : NONE);
            }
            for (int n : new int[] {MIN, -2, -1, 201, 202, MAX}) {
                due.is("tried(" + what + ", 0, " + n + ")", x.tried(what, 0, n), NONE);
            }
        }
        ClapMill y = Due.mill("guest g 1 0;");
        due.is("a single guest", y.tried(2, 0, 1), 0);
        due.is("no second", y.tried(2, 1, 1), NONE);
        due.is("no guests", new ClapMill().tried(2, 0, 1), NONE);
        due.is("no guests, hunger", new ClapMill().tried(4, 0, 1), 0);
    }

    private static void triedOfMinutes() {
        ClapMill x = Due.mill("guest g 1 0;grain a 1 99 99;grain b 1 99 99;grain c 1 99 99;law turn 1;");
        for (int what = 0; what <= 4; what++) {
            for (int n : new int[] {0, 1, 199, 200}) {
                due.is("tried(" + what + ", 0, " + n + ")", x.tried(what, 0, n), n);
            }
        }
        x.go(3);
        due.is("in all then", x.tried(0, 0, 200), 203);
        due.is("in all now", x.tried(0, 0, 0), 3);
        due.is("no minute went by", x.count(5), 3);
    }

    private static void triedCoughs() {
        for (int cough : new int[] {0, 49, 50, 100}) {
            ClapMill x = Due.mill("act a 1 3;guest g 1 0;grain o 1 99 99;show a 1;law turn 1 + beside;law grit beside + (beside = 0);cough " + cough + ";");
            due.is("never, cough " + cough, x.tried(0, 0, 4), 1 + 3 * 5);
            due.is("always where an act is on, cough " + cough, x.tried(1, 0, 4), 4);
            due.is("otherwise as it goes, cough " + cough, x.tried(3, 0, 4), cough < 50 ? 16 : 4);
        }
    }

    /** "GUEST i never CLAPS (0, E isn't asked)" */
    private static void triedMute() {
        ClapMill x = Due.mill("act a 1 1;guest a 1 0;guest b 2 0;guest c 3 0;grain o 1 99 99;show a 0;law clap beside + taste;law turn beside;law grit beside;");
        // Claps 1, 3, 6: a sum of 10. Without a: 2, 5. Without b: 1, 3. Without c: 1, 3.
        due.is("all clap: 9 at most", x.ahead(1, 0, 0), 9);
        due.is("a never claps", x.tried(2, 0, 1), 7);
        due.is("b never claps", x.tried(2, 1, 1), 4);
        due.is("c never claps", x.tried(2, 2, 1), 4);
        x.change(0, 2);
        // Claps of c, b, a: 3, 5, 6. Without c: 2, 3.
        due.is("c in the first seat never claps", x.tried(2, 2, 1), 5);
        ClapMill y = Due.mill("act a 1 9;guest a 1 0;grain o 1 99 99;show a 0;law clap 4 - tired;law turn beside;");
        due.is("not tired either", y.tried(2, 0, 9), 0);
        due.is("tired else", y.ahead(9, 0, 0), 4);
    }

    private static void triedRunsBack() {
        ClapMill x = Due.mill("grain o 1 99 99;law turn 2 - minute;");
        int[] goes = {0, 1, 2, 2, 1, 0, 0};
        int[] tried = {0, 1, 2, 2, 2, 2, 2};
        for (int n = 0; n < goes.length; n++) {
            due.is("as it goes for " + n, x.tried(0, 0, n), goes[n]);
            due.is("nothing comes back for " + n, x.tried(3, 0, n), tried[n]);
        }
    }

    private static void triedHunger() {
        for (int hunger = 0; hunger <= 9; hunger++) {
            ClapMill x = Due.mill("act a 1 1;guest g 1 " + hunger + ";grain o 1 99 99;show a 0;law clap hunger;law turn beside;law grit speed;");
            due.is("hunger " + hunger, x.ahead(1, 0, 0), hunger);
            due.is("hunger 9 in place of " + hunger, x.tried(4, 0, 1), 9);
            due.is("hunger " + hunger + " stays", Due.guest(x, 0, 1), hunger);
        }
        ClapMill y = Due.mill("act a 1 1;guest g 1 3;grain o 1 99 99;show a 0;law turn hunger + 1;law grit hunger + 1;");
        due.is("none of turn and grit", y.tried(4, 0, 1), 1);
    }
}
