/** Promises 14 to 26: what comes, the best orders, games and likings, quiet. */
public final class AheadTest {
    private static final int NONE = ClapMill.NONE;
    private static final int LOW = Integer.MIN_VALUE;
    private static final Due due = new Due();

    private static final String SMALL =
            "act x 5 2;guest p 5 3;guest q 9 6;grain m 1 9 3;grain n 1 99 9;show x 1;show x 2;law turn beside;";

    public static void main(String[] args) {
        ahead();
        aheadAsItGoes();
        flour();
        bill();
        seats();
        enough();
        span();
        pushFor();
        silence();
        game();
        claque();
        dearest();
        quiet();
        due.end();
    }

    private static void ahead() {
        ClapMill x = Due.mill(SMALL);
        due.is("0 minutes", x.ahead(0, 0, 9), 0);
        due.is("ground in all, i not looked at", x.ahead(3, 0, 9), 2);
        due.is("of grain 0", x.ahead(3, 1, 0), 2);
        due.is("of grain 1", x.ahead(3, 1, 1), 0);
        due.is("no such grain", x.ahead(3, 1, 2), LOW);
        due.is("no such grain", x.ahead(3, 1, -1), LOW);
        due.is("speed", x.ahead(2, 2, -7), 6);
        due.is("speed then", x.ahead(4, 2, 0), 0);
        due.is("refused", x.ahead(3, 3, 77), 1);
        due.is("tired", x.ahead(200, 4, 1), 2);
        due.is("no such guest", x.ahead(3, 4, 2), LOW);
        due.is("no such guest", x.ahead(3, 4, -1), LOW);
        due.is("no such what", x.ahead(3, 5, 0), LOW);
        due.is("no such what", x.ahead(3, -1, 0), LOW);
        due.is("201 minutes", x.ahead(201, 0, 0), LOW);
        due.is("-1 minutes", x.ahead(-1, 0, 0), LOW);
        due.is("nothing went by", x.count(5), 0);
        due.is("nothing was ground", x.count(8), 0);
        x.go(2);
        due.is("in all, with those of before", x.ahead(1, 0, 0), 2);
        x.go(1);
        due.is("none refused more", x.ahead(50, 3, 0), 0);
    }

    private static void aheadAsItGoes() {
        String hall = "act a 4 9;guest g 4 0;grain o 1 99 99;show a 0;law turn beside;seed 1;";
        due.is("cough 49", Due.mill(hall + "cough 49;").ahead(9, 0, 0), 9);
        due.is("cough 50", Due.mill(hall + "cough 50;").ahead(9, 0, 0), 0);
        due.is("cough 50: tired", Due.mill(hall + "cough 50;").ahead(9, 4, 0), 9);
        due.is("cough 100", Due.mill(hall + "cough 100;").ahead(9, 0, 0), 0);
        ClapMill x = Due.mill(hall + "cough 51;");
        ClapMill y = Due.mill(hall + "cough 51;");
        x.ahead(9, 0, 0);
        x.chance(9, 9, 9);
        x.go(9);
        y.go(9);
        due.is("asking takes no numbers", x.count(10), y.count(10));
    }

    private static void flour() {
        ClapMill x = Due.mill(SMALL);
        due.is("flour(0)", x.flour(0), 0);
        due.is("flour(1)", x.flour(1), 2);
        due.is("flour(2)", x.flour(2), 3);
        due.is("flour(3)", x.flour(3), -2);
        due.is("flour(-1)", x.flour(-1), NONE);
        due.is("flour(999)", x.flour(999), -2);
        due.is("flour(1000)", x.flour(1000), NONE);
        x.go(3);
        due.is("they are", x.flour(2), 0);
        ClapMill y = Due.mill("grain g 99 99 2;law turn minute*(minute < 200);");
        due.is("behind 100 minutes", y.flour(1), 100);
        ClapMill z = Due.mill("grain g 1 99 1;law turn minute = 198;");
        due.is("behind 199 minutes", z.flour(1), 199);
        ClapMill w = Due.mill("grain g 1 99 1;law turn minute = 199;");
        due.is("behind 200 minutes", w.flour(1), -2);
        ClapMill v = Due.mill("grain g 1 99 9;law turn 1;law grit 2;");
        due.is("more than that", v.flour(3), 2);
        ClapMill u = Due.mill("grain g 1 99 9;law turn 2 - minute;");
        due.is("though they run back", u.flour(2), 2);
    }

    private static void bill() {
        // By a, then b, the speeds are 5 and 6, else 1 and 6: the grain wants 3 at least.
        ClapMill x = Due.mill("act a 9 1;act b 5 1;guest g 9 0;grain o 3 9 9;law turn speed + beside;");
        due.is("bill(0)", x.bill(0), 0);
        due.is("bill(1)", x.bill(1), 1);
        due.is("bill(2)", x.bill(2), -2);
        due.is("bill(3)", x.bill(3), -2);
        due.is("bill(4)", x.bill(4), 2);
        due.is("bill(5)", x.bill(5), NONE);
        due.is("bill(-1)", x.bill(-1), NONE);
        // a: 5 claps, b: 1 clap: behind b the speed is 1, behind a 6; the grain is ground at 1 .. 5.
        ClapMill y = Due.mill("act a 9 1;act b 5 1;guest g 9 0;grain o 1 5 9;grain p 6 6 1;law turn speed + beside;");
        due.is("of several the first by acts", y.bill(0), 0);
        due.is("both ways 2", y.bill(4), 2);
        ClapMill z = Due.mill("act a 9 1;act b 5 1;guest g 9 0;grain o 1 4 9;grain p 6 6 1;law turn speed + beside;");
        due.is("b first", z.bill(0), 1);
        due.is("a then", z.bill(1), 0);
        due.is("ground by it", z.bill(4), 2);
        z.stage(0);
        z.go(0);
        due.is("what is on is over", z.bill(4), 2);
        z.push(-2);
        due.is("speed as now: 3, then 4", z.bill(0), 0);
        due.is("ground by it", z.bill(4), 2);
        // Six acts: the first four alone, each for its length; shows are not told.
        ClapMill w = Due.mill("act a 0 1;act b 0 2;act c 0 3;act d 0 4;act e 9 9;act f 9 9;guest g 9 0;"
                + "grain o 1 99 99;show e 0;show f 9;law turn 1;law grit 1 + minute / 10;");
        due.is("ten minutes", w.bill(4), 10);
        due.is("the fourth", w.bill(3), 3);
        w.go(10);
        due.is("from minute 10 on, with those ground", w.bill(4), 10 + 20);
        due.is("bill() changes nothing", w.count(5), 10);
    }

    private static void seats() {
        ClapMill x = Due.mill("act a 5 1;act b 0 1;guest g 5 0;guest h 3 0;guest i 1 0;law clap beside + 5 - taste*mood/5;");
        // Act a: g claps beside, h beside + 2, i beside + 4: the hungriest for it sits first.
        due.is("seat 0", x.seats(0, 0), 2);
        due.is("seat 1", x.seats(0, 1), 1);
        due.is("seat 2", x.seats(0, 2), 0);
        due.is("seat 3", x.seats(0, 3), -2);
        due.is("seat 5", x.seats(0, 5), -2);
        due.is("4 + 6 + 6", x.seats(0, 6), 16);
        due.is("act b: 5 + 9 + 9", x.seats(1, 6), 23);
        due.is("of several the first", x.seats(1, 0), 0);
        due.is("no such act", x.seats(2, 0), LOW);
        due.is("no such act", x.seats(-1, 0), LOW);
        due.is("no such what", x.seats(0, 7), LOW);
        due.is("no such what", x.seats(0, -1), LOW);
        ClapMill y = Due.mill("act a 9 1;guest g 0 0;guest h 1 0;");
        due.is("below 0, without a law", y.seats(0, 6), -7);
        due.is("no guests", Due.mill("act a 9 1;").seats(0, 6), 0);
        due.is("no guests", Due.mill("act a 9 1;").seats(0, 0), -2);
        ClapMill z = Due.mill("act a 5 9;guest g 5 0;guest h 5 0;law clap 4 - tired + (beside = 3) - 3*(speed > 50);");
        z.stage(0);
        z.change(0, 1);
        due.is("nobody is tired", z.seats(0, 6), 8);
        z.go(1);
        due.is("3, then 4", z.seats(0, 6), 7);
        due.is("whoever is told first", z.seats(0, 0), 0);
        z.push(99);
        due.is("by the speed of now", z.seats(0, 6), 0);
        // Claps of 9 and of -9 beside: 0 claps 9 first, else -9; 1 claps 9 beside 9, 2 beside -9.
        ClapMill w = Due.mill("act a 5 9;guest a 0 0;guest b 1 0;guest c 2 0;guest d 3 0;law clap "
                + "18*((taste = 0 and beside = 0) or (taste = 1 and beside = 9) or (taste = 2 and beside < 0)) - 9;");
        due.is("9, 9, -9, 9", w.seats(0, 6), 18);
        int[] best = {0, 1, 3, 2};
        for (int seat = 0; seat < 4; seat++) {
            due.is("seat " + seat, w.seats(0, seat), best[seat]);
        }
    }

    private static void enough() {
        ClapMill x = Due.mill("act a 5 1;act b 9 1;guest g 3 0;guest h 4 0;guest i 5 0;guest j 6 0;guest k 0 0;law clap 9;");
        // Without: 3, 4, 5, 4, 0.
        due.is("5", x.enough(0, 5), 4);
        due.is("4: the least bits of one", x.enough(0, 4), 2);
        due.is("1", x.enough(0, 1), 1);
        due.is("6", x.enough(0, 6), 3);
        due.is("9", x.enough(0, 9), 6);
        due.is("10", x.enough(0, 10), 7);
        due.is("13", x.enough(0, 13), 14);
        due.is("16", x.enough(0, 16), 15);
        due.is("17", x.enough(0, 17), -2);
        due.is("99", x.enough(0, 99), -2);
        due.is("0", x.enough(0, 0), NONE);
        due.is("100", x.enough(0, 100), NONE);
        due.is("no such act", x.enough(2, 1), NONE);
        due.is("no such act", x.enough(-1, 1), NONE);
        due.is("below 0 doesn't help", x.enough(1, 3), 12);
        due.is("no guests", Due.mill("act a 1 1;").enough(0, 1), -2);
    }

    private static void span() {
        ClapMill x = Due.mill("grain a 5 9 1;grain b 0 6 1;grain c 0 99 9;grain d 50 60 9;law turn 8;");
        due.is("span(0)", x.span(0), 5);
        due.is("span(1)", x.span(1), 4);
        due.is("span(2)", x.span(2), 90);
        due.is("span(3)", x.span(3), 0);
        due.is("span(4)", x.span(4), NONE);
        due.is("span(-1)", x.span(-1), NONE);
        x.go(1);
        due.is("none left", x.span(0), 0);
        due.is("the next one has more", x.span(1), 6);
        due.is("low above high", Due.mill("grain a 9 3 9;").span(0), 0);
    }

    private static void pushFor() {
        ClapMill x = Due.mill("grain a 5 9 3;grain b 20 40 50;");
        due.is("speed 10 is half in a minute", x.pushFor(1, 1), 10);
        due.is("two minutes", x.pushFor(2, 2), 80);
        due.is("20, 10, 5", x.pushFor(3, 2), 40);
        due.is("never three in three minutes", x.pushFor(3, 3), -2);
        due.is("0 minutes", x.pushFor(0, 1), -2);
        due.is("too much", x.pushFor(60, 99), -2);
        due.is("61 minutes", x.pushFor(61, 1), NONE);
        due.is("-1 minutes", x.pushFor(-1, 1), NONE);
        due.is("0 sacks", x.pushFor(1, 0), NONE);
        due.is("100 sacks", x.pushFor(1, 100), NONE);
        due.is("nothing was pushed", x.count(6), 0);
        x.push(99);
        x.go(1);
        due.is("49 was too fast", x.count(8), 0);
        due.is("in place of that of now", x.pushFor(1, 1), 10);
        x.go(1);
        due.is("24", x.count(8), 1);
        due.is("more than now", x.pushFor(1, 1), 10);
        ClapMill y = Due.mill("grain a 1 99 9;law turn 1;law grit 3;");
        due.is("any speed", y.pushFor(2, 6), 0);
        due.is("by none", y.pushFor(2, 7), -2);
        due.is("99", Due.mill("grain a 99 99 9;law turn speed;").pushFor(3, 3), 99);
    }

    private static void silence() {
        ClapMill x = Due.mill("law turn minute = 2 or minute = 7;");
        due.is("0", x.silence(0), 0);
        due.is("2", x.silence(2), 2);
        due.is("3", x.silence(3), 2);
        due.is("6", x.silence(6), 3);
        due.is("9", x.silence(9), 4);
        due.is("200", x.silence(200), 192);
        due.is("201", x.silence(201), NONE);
        due.is("-1", x.silence(-1), NONE);
        x.push(5);
        due.is("speed of now isn't looked at", x.silence(2), 2);
        ClapMill y = Due.mill("law turn minute - 1;");
        due.is("below 0 is no silence", y.silence(5), 1);
    }

    private static void game() {
        ClapMill x = Due.mill("grain a 0 0 1;grain b 0 1 1;grain c 0 2 1;grain d 0 3 1;");
        int[] firsts = {-2, 1, 2, 3};
        for (int grain = 0; grain < 4; grain++) {
            due.is("who wins on " + grain, x.game(grain, 0), grain == 0 ? 1 : 0);
            due.is("first on " + grain, x.game(grain, 1), firsts[grain]);
        }
        due.is("no such grain", x.game(4, 0), NONE);
        due.is("no such grain", x.game(-1, 0), NONE);
        due.is("no such what", x.game(0, 2), NONE);
        due.is("no such what", x.game(0, -1), NONE);
        x.push(2);
        due.is("more already", x.game(1, 0), 2);
        due.is("nobody wins", x.game(1, 1), -2);
        due.is("as much", x.game(2, 0), 1);
        x.push(-7);
        due.is("from -5 to 0", x.game(0, 0), 0);
        due.is("adds 1", x.game(0, 1), 1);
        due.is("from -5 to 3", x.game(3, 0), 1);
    }

    private static void claque() {
        // Without: 5 and 4. Both clap: 5+2-3, 4+2-0; alone: 5-4, 4-0.
        ClapMill x = Due.mill("act a 5 1;act b 0 1;guest g 5 9;guest h 4 1;guest i 5 8;");
        due.is("rests(0, 1, 0)", x.rests(0, 1, 0), 1);
        due.is("both clap", x.rest(0, 1, 0, 0), 0);
        due.is("no second", x.rest(0, 1, 0, 1), -2);
        // Without: 0 and 1. Both: 0+2-3 and 1+2-0; alone: 0-4 and 1-0: g sits, h claps (1 against 0).
        due.is("rests(0, 1, 1)", x.rests(0, 1, 1), 1);
        due.is("the first sits", x.rest(0, 1, 1, 0), 10);
        due.is("turned round", x.rest(1, 0, 1, 0), 1);
        // Without: 0 and 0, hunger 9 and 8: both sit.
        due.is("both sit", x.rest(0, 2, 1, 0), 11);
        due.is("alike", x.rests(1, 1, 0), NONE);
        due.is("no such guest", x.rests(0, 3, 0), NONE);
        due.is("no such guest", x.rests(-1, 0, 0), NONE);
        due.is("no such act", x.rests(0, 1, 2), NONE);
        due.is("no such act", x.rests(0, 1, -1), NONE);
        due.is("alike", x.rest(1, 1, 0, 0), NONE);
        due.is("no such guest", x.rest(3, 0, 0, 0), NONE);
        due.is("no such act", x.rest(0, 1, 2, 0), NONE);
        due.is("k below 0", x.rest(0, 1, 0, -1), NONE);
        // Without 1, hunger 2 (0 and 1 by cuts): both 3, alone 0: both clap, or both sit (0 against 0).
        ClapMill y = Due.mill("act a 4 1;guest g 0 2;guest h 0 2;");
        due.is("two rests", y.rests(0, 1, 0), 2);
        due.is("both clap first", y.rest(0, 1, 0, 0), 0);
        due.is("both sit", y.rest(0, 1, 0, 1), 11);
        due.is("no third", y.rest(0, 1, 0, 2), -2);
        // Without 1, hunger 6 (2 and 3 by cuts): both 1, alone -2: neither has more otherwise in 0 0 and 1 1.
        ClapMill z = Due.mill("act a 4 1;guest g 0 6;guest h 0 6;");
        due.is("alike isn't more", z.rests(0, 1, 0), 2);
        // Without -1, hunger 0: both 1, alone -1; without -2: both 0, alone -2.
        ClapMill w = Due.mill("act a 7 1;guest g 1 0;guest h 0 0;");
        due.is("h sits", w.rests(0, 1, 0), 1);
        due.is("so g does", w.rest(0, 1, 0, 0), 11);
    }

    private static void dearest() {
        ClapMill x = Due.mill("act a 2 1;act b 6 1;act c 9 1;guest g 4 0;guest h 5 0;guest i 8 0;guest j 0 0;");
        due.is("the first of several", x.dearest(0), 0);
        due.is("b", x.dearest(1), 1);
        due.is("c", x.dearest(2), 2);
        due.is("a", x.dearest(3), 0);
        due.is("no such guest", x.dearest(4), NONE);
        due.is("no such guest", x.dearest(-1), NONE);
        due.is("no acts", Due.mill("guest g 4 0;").dearest(0), -2);
        due.is("no acts, no such guest", Due.mill("guest g 4 0;").dearest(1), NONE);
    }

    private static void quiet() {
        ClapMill x = Due.mill("cough 1;");
        due.is("99 to the 6", x.quiet(6, 0), 941480149401L);
        due.is("100 to the 6", x.quiet(6, 1), 1000000000000L);
        due.is("n 0", x.quiet(0, 0), 1);
        due.is("n 0", x.quiet(0, 1), 1);
        due.is("n 7", x.quiet(7, 0), NONE);
        due.is("n -1", x.quiet(-1, 0), NONE);
        due.is("what 2", x.quiet(1, 2), NONE);
        due.is("what -1", x.quiet(1, -1), NONE);
        ClapMill y = Due.mill("cough 60;");
        due.is("4 of 25", y.quiet(2, 0), 4);
        due.is("4 of 25", y.quiet(2, 1), 25);
        ClapMill z = Due.mill("cough 100;");
        due.is("0 of 1", z.quiet(3, 0), 0);
        due.is("0 of 1", z.quiet(3, 1), 1);
        due.is("1 of 1", z.quiet(0, 0), 1);
        ClapMill w = Due.mill("cough 0;");
        due.is("always", w.quiet(6, 0), 1);
        due.is("always", w.quiet(6, 1), 1);
    }
}
