/**
 * Promises 14 to 26 and the first half of the document's section 3: each limit of what is asked about what
 * comes, at it and a step to each side of it.
 */
public final class AheadEdgeTest {
    private static final int NONE = ClapMill.NONE;
    private static final int LOW = Integer.MIN_VALUE;
    private static final int MIN = Integer.MIN_VALUE;
    private static final int MAX = Integer.MAX_VALUE;
    private static final Due due = new Due();

    private static final String SIX = "guest a 1 0;guest b 1 0;guest c 1 0;guest d 1 0;guest e 1 0;guest f 1 0;";

    public static void main(String[] args) {
        aheadOfMinutes();
        aheadOfWhat();
        aheadCoughsFromFifty();
        aheadRefusedMore();
        aheadThoseThatCameBack();
        aheadOfTheLatestOfNow();
        flourOfSacks();
        flourOfMinutes();
        flourThatComesBack();
        billOfWhat();
        billOfActs();
        billOfSeveral();
        billWithoutShows();
        seatsOfWhat();
        seatsOfGuests();
        seatsByAllClaps();
        seatsOfSeveral();
        enoughForSums();
        enoughOfSeveral();
        spanOfSpeeds();
        pushForMinutes();
        pushForSacks();
        pushForSpeeds();
        silenceOfMinutes();
        silenceOfSpeeds();
        gameOfSpeeds();
        gameOfWrongOnes();
        claqueOfWrongOnes();
        claqueOfAlikeGains();
        claqueCuts();
        dearestOfActs();
        quietOfCoughs();
        quietOfWrongOnes();
        due.end();
    }

    // ---- promise 14

    private static void aheadOfMinutes() {
        ClapMill x = Due.mill("guest g 1 1;grain o 0 99 99;law turn minute;");
        int[] right = {0, 1, 99, 100, 199, 200};
        int[] speeds = {0, 0, 98, 99, 99, 99};
        for (int i = 0; i < right.length; i++) {
            due.is("speed ahead for " + right[i], x.ahead(right[i], 2, 0), speeds[i]);
        }
        for (int n : new int[] {MIN, -2, -1, 201, 202, MAX}) {
            for (int what = 0; what <= 4; what++) {
                due.is("ahead for " + n + ", " + what, x.ahead(n, what, 0), LOW);
            }
        }
        x.push(7);
        due.is("ahead for 0: speed of now", x.ahead(0, 2, 0), 7);
    }

    private static void aheadOfWhat() {
        ClapMill x = Due.mill("act a 1 2;" + SIX + "grain a 1 1 9;grain b 2 2 9;grain c 3 3 9;grain d 4 4 9;show a 0;show a 1;law turn 4;");
        int[] wild = {MIN, -1, 0, 1, 9, MAX};
        for (int i : wild) {
            due.is("ground in all, i " + i, x.ahead(3, 0, i), 3);
            due.is("speed, i " + i, x.ahead(3, 2, i), 4);
            due.is("refused, i " + i, x.ahead(3, 3, i), 1);
        }
        for (int grain = 0; grain < 4; grain++) {
            due.is("of grain " + grain, x.ahead(3, 1, grain), grain == 3 ? 3 : 0);
        }
        for (int grain : new int[] {MIN, -2, -1, 4, 5, MAX}) {
            due.is("of no such grain " + grain, x.ahead(3, 1, grain), LOW);
        }
        for (int guest = 0; guest < 6; guest++) {
            due.is("tired of guest " + guest, x.ahead(3, 4, guest), 2);
        }
        for (int guest : new int[] {MIN, -2, -1, 6, 7, MAX}) {
            due.is("tired of no such guest " + guest, x.ahead(3, 4, guest), LOW);
        }
        for (int what : new int[] {MIN, -2, -1, 5, 6, MAX}) {
            due.is("no such what " + what, x.ahead(3, what, 0), LOW);
        }
        ClapMill y = new ClapMill();
        due.is("no grains", y.ahead(3, 1, 0), LOW);
        due.is("no guests", y.ahead(3, 4, 0), LOW);
        due.is("nothing ground", y.ahead(200, 0, 0), 0);
    }

    /** "AS IT GOES: without numbers: it is COUGHED, if cough is 50 at least." */
    private static void aheadCoughsFromFifty() {
        int[] coughs = {0, 1, 49, 50, 51, 99, 100};
        for (int cough : coughs) {
            ClapMill x = Due.mill("act a 1 2;guest g 1 0;grain o 1 99 99;show a 0;law turn beside;cough " + cough + ";");
            due.is("cough " + cough + ": ground", x.ahead(2, 0, 0), cough < 50 ? 2 : 0);
            due.is("cough " + cough + ": flour", x.flour(1), cough < 50 ? 1 : -2);
            due.is("cough " + cough + ": bill", x.bill(4), cough < 50 ? 2 : 0);
            due.is("cough " + cough + ": push", x.pushFor(2, 2), cough < 50 ? 0 : -2);
            due.is("cough " + cough + ": silence", x.silence(2), cough < 50 ? 0 : 2);
            due.is("cough " + cough + ": hunger 9", x.tried(4, 0, 2), cough < 50 ? 2 : 0);
            due.is("cough " + cough + ": never", x.tried(0, 0, 2), 2);
            due.is("cough " + cough + ": always", x.tried(1, 0, 2), 0);
            due.is("cough " + cough + ": tired all the same", x.ahead(2, 4, 0), 2);
            x.see(2, 2, true);
            due.is("cough " + cough + ": moods", x.moods(0) != 0, cough < 50);
        }
    }

    private static void aheadRefusedMore() {
        ClapMill x = Due.mill("act a 1 5;show a 0;show a 1;show a 2;");
        due.is("two", x.ahead(3, 3, 0), 2);
        x.go(2);
        due.is("one was refused", x.count(9), 1);
        due.is("none more in no minutes", x.ahead(0, 3, 0), 0);
        due.is("one more", x.ahead(1, 3, 0), 1);
    }

    private static void aheadThoseThatCameBack() {
        ClapMill x = Due.mill("grain o 1 9 9;law turn 3 - 9*(minute > 1);");
        int[] ground = {0, 1, 2, 1, 0, 0};
        for (int n = 0; n < ground.length; n++) {
            due.is("in all ahead for " + n, x.ahead(n, 0, 0), ground[n]);
            due.is("of the grain ahead for " + n, x.ahead(n, 1, 0), ground[n]);
        }
    }

    /** What was ground latest when it is asked is what comes back ahead. */
    private static void aheadOfTheLatestOfNow() {
        String hall = "act a 1 1;grain o 1 9 9;grain w 40 99 9;law turn 5*(minute = 0) + 50*(minute = 1) - 9*(minute = 2 or minute = 3) + 5*(minute > 3);";
        ClapMill x = Due.mill(hall);
        due.is("from minute 0 on: w comes back", x.ahead(3, 1, 1), 0);
        x.go(1);
        due.is("from minute 1 on: w, too", x.ahead(2, 1, 1), 0);
        due.is("o stays", x.ahead(2, 1, 0), 1);
        x.go(1);
        due.is("from minute 2 on: w is the latest", x.ahead(1, 1, 1), 0);
        due.is("o stays still", x.ahead(2, 1, 0), 1);
        due.is("nothing comes back", x.tried(3, 0, 1), 2);
        due.is("by chance, too", x.chance(1, 1, 2), 0);
        ClapMill y = Due.mill(hall);
        y.go(2);
        due.is("never asked before: w is the latest", y.ahead(1, 0, 0), 1);
        y.ahead(9, 0, 0);
        due.is("asked for more before: w is the latest", y.ahead(1, 1, 1), 0);
        due.is("of the first one none comes back", y.ahead(1, 1, 0), 1);
    }

    // ---- promise 15: "in how many MINUTES as it goes, 199 at most, as many SACKS are GROUND in all (0: they are)"

    private static void flourOfSacks() {
        ClapMill x = Due.mill("grain a 1 99 99;grain b 1 99 99;grain c 1 99 99;grain d 1 99 99;law turn 1;law grit 9;");
        for (int sacks : new int[] {MIN, -2, -1, 1000, 1001, MAX}) {
            due.is("flour(" + sacks + ")", x.flour(sacks), NONE);
        }
        int[] sacks = {0, 1, 9, 10, 99, 100, 396, 397, 998, 999};
        int[] minutes = {0, 1, 1, 2, 11, 12, 44, -2, -2, -2};
        for (int i = 0; i < sacks.length; i++) {
            due.is("flour(" + sacks[i] + ")", x.flour(sacks[i]), minutes[i]);
        }
        x.go(1);
        due.is("they are", x.flour(9), 0);
        due.is("one more than there are", x.flour(10), 1);
        due.is("one less than there are", x.flour(8), 0);
    }

    private static void flourOfMinutes() {
        for (int minute : new int[] {0, 1, 197, 198, 199, 200}) {
            ClapMill x = Due.mill("grain g 1 99 1;law turn minute = " + minute + ";");
            due.is("ground in minute " + minute, x.flour(1), minute < 199 ? minute + 1 : -2);
        }
        ClapMill y = Due.mill("grain g 1 99 1;law turn minute = 199;");
        y.go(1);
        due.is("a minute later", y.flour(1), 199);
    }

    private static void flourThatComesBack() {
        ClapMill x = Due.mill("grain o 1 9 9;law turn 3 - 9*(minute > 1);");
        due.is("two for a while", x.flour(2), 2);
        due.is("never three", x.flour(3), -2);
        x.go(3);
        due.is("one now", x.flour(1), 0);
        due.is("two no more", x.flour(2), -2);
    }

    // ---- promise 16

    private static void billOfWhat() {
        ClapMill x = Due.mill("act a 1 1;act b 1 1;act c 1 1;act d 1 1;");
        for (int what : new int[] {MIN, -2, -1, 5, 6, MAX}) {
            due.is("bill(" + what + ")", x.bill(what), NONE);
            due.is("bill(" + what + ") without acts", new ClapMill().bill(what), NONE);
        }
        for (int acts = 0; acts <= 6; acts++) {
            StringBuilder text = new StringBuilder();
            for (int i = 0; i < acts; i++) {
                text.append("act ").append((char) ('a' + i)).append(" 1 1;");
            }
            ClapMill y = Due.mill(text + "grain o 1 9 9;law turn 1;");
            for (int what = 0; what < 4; what++) {
                due.is("bill(" + what + ") of " + acts + " acts", y.bill(what), what < acts ? what : -2);
            }
            due.is("bill(4) of " + acts + " acts", y.bill(4), Math.min(acts, 4));
        }
    }

    /** "all ACTS (4 at most, the first ones) ... each for its LENGTH" */
    private static void billOfActs() {
        ClapMill x = Due.mill("act a 1 9;act b 2 9;act c 3 9;act d 4 9;act e 5 9;act f 6 9;grain o 1 99 99;law turn 1;");
        due.is("36 minutes", x.bill(4), 36);
        x.stage(4);
        due.is("what is on now is over", x.bill(4), 36);
        x.go(3);
        due.is("those ground already, too", x.bill(4), 39);
        // Only d is worth something, and more behind more minutes: it comes last.
        ClapMill y = Due.mill("act a 1 1;act b 1 1;act c 1 1;act d 9 1;act e 9 9;grain o 1 99 99;law turn mood = 9;law grit minute + 1;");
        int[] order = {0, 1, 2, 3};
        for (int what = 0; what < 4; what++) {
            due.is("place " + what, y.bill(what), order[what]);
        }
        due.is("in minute 3", y.bill(4), 4);
        ClapMill z = Due.mill("act a 9 1;act b 1 1;act c 1 1;act d 1 1;act e 9 9;grain o 1 99 99;law turn mood = 9;law grit minute + 1;");
        int[] turned = {1, 2, 3, 0};
        for (int what = 0; what < 4; what++) {
            due.is("a last: place " + what, z.bill(what), turned[what]);
        }
        z.go(5);
        due.is("from minute 5 on", z.bill(4), 9);
        z.go(1);
        due.is("from minute 6 on: 9 at most", z.bill(4), 9);
        due.is("of several the first: b", z.bill(0), 1);
        due.is("of several the first: a in minute 8 already", z.bill(2), 0);
    }

    private static void billOfSeveral() {
        ClapMill x = Due.mill("act a 1 1;act b 1 1;act c 1 1;act d 1 1;grain o 1 99 99;");
        for (int what = 0; what < 4; what++) {
            due.is("all alike: place " + what, x.bill(what), what);
        }
        due.is("nothing ground", x.bill(4), 0);
        // c must be ahead of b, nothing else matters: a, c, b, d is the first such order.
        ClapMill y = Due.mill("act a 1 1;act b 2 1;act c 3 1;act d 4 1;grain o 1 99 99;law turn mood - 1 + speed*(mood <> 3)*(mood <> 1);"
                + "law grit mood = 2 and speed > 2;");
        int[] order = {0, 2, 1, 3};
        for (int what = 0; what < 4; what++) {
            due.is("c ahead of b: place " + what, y.bill(what), order[what]);
        }
        due.is("one sack", y.bill(4), 1);
    }

    private static void billWithoutShows() {
        ClapMill x = Due.mill("act a 1 2;act b 9 9;show b 0;show b 1;grain o 1 99 99;law turn mood = 9;");
        due.is("b for its length alone", x.bill(4), 9);
        due.is("as it goes b comes by its show", x.ahead(9, 0, 0), 9);
        due.is("none is refused by asking", x.count(9), 0);
        due.is("nothing is on", x.count(12), -2);
    }

    // ---- promise 17

    private static void seatsOfWhat() {
        ClapMill x = Due.mill("act a 1 1;act b 1 1;act c 1 1;act d 1 1;act e 1 1;act f 1 1;guest a 1 1;");
        for (int what : new int[] {MIN, -2, -1, 7, 8, MAX}) {
            due.is("seats(0, " + what + ")", x.seats(0, what), LOW);
        }
        for (int act : new int[] {MIN, -2, -1, 6, 7, MAX}) {
            for (int what : new int[] {-1, 0, 5, 6, 7}) {
                due.is("seats(" + act + ", " + what + ")", x.seats(act, what), LOW);
            }
        }
        due.is("the last act", x.seats(5, 6), 5);
        due.is("no acts", Due.mill(SIX).seats(0, 0), LOW);
    }

    private static void seatsOfGuests() {
        for (int guests = 0; guests <= 6; guests++) {
            ClapMill x = Due.mill("act a 1 1;" + SIX.substring(0, 12 * guests));
            for (int what = 0; what < 6; what++) {
                due.is("seats(0, " + what + ") of " + guests, x.seats(0, what), what < guests ? what : -2);
            }
            due.is("sum of " + guests, x.seats(0, 6), 5 * guests);
        }
        ClapMill y = Due.mill("act a 9 1;guest a 0 0;guest b 0 0;guest c 0 0;guest d 0 0;guest e 0 0;guest f 0 0;");
        due.is("below 0", y.seats(0, 6), -24);
        due.is("nine below 0 each", Due.mill("act a 9 1;" + SIX + "law clap 0-99;").seats(0, 6), -54);
        due.is("nine each", Due.mill("act a 9 1;" + SIX + "law clap 99;").seats(0, 6), 54);
        due.is("with an error", Due.mill("act a 9 1;" + SIX + "law clap 1/0;").seats(0, 6), -18);
    }

    private static final String[] LAWS = {"beside*taste - 20*(taste > 5) + 3*taste", "9*(taste > 4) - 9*(taste < 3) - beside*(taste - 3)",
        "8 - 17*(taste/2*2 = taste) + beside*(taste - 4)/3"};

    /** Claps from -9 to 9 beside each guest: every order is tried here, too. */
    private static void seatsByAllClaps() {
        int[][] tastes = {{0, 1, 2, 3}, {9, 0, 8, 1}, {4, 4, 9, 0}, {1, 9, 1, 9}, {7, 2, 6, 3}, {8, 3, 0, 5}, {3, 0, 6, 1}, {2, 5, 7, 9}};
        for (int[] of : tastes) {
            StringBuilder text = new StringBuilder("act a 5 1;");
            for (int i = 0; i < 4; i++) {
                text.append("guest ").append((char) ('a' + i)).append(' ').append(of[i]).append(" 0;");
            }
            for (int turned = 0; turned < LAWS.length; turned++) {
                String sign = LAWS[turned];
                ClapMill x = Due.mill(text + "law clap " + sign + ";");
                int[] best = new int[4];
                int most = Integer.MIN_VALUE;
                for (int code = 0; code < 256; code++) {
                    int[] order = {code >> 6, code >> 4 & 3, code >> 2 & 3, code & 3};
                    if ((1 << order[0] | 1 << order[1] | 1 << order[2] | 1 << order[3]) == 15) {
                        int sum = sumOf(of, order, turned);
                        if (sum > most) {
                            most = sum;
                            best = order;
                        }
                    }
                }
                for (int seat = 0; seat < 4; seat++) {
                    due.is("seat " + seat + " by " + sign, x.seats(0, seat), best[seat]);
                }
                due.is("sum by " + sign, x.seats(0, 6), most);
            }
        }
    }

    private static int sumOf(int[] tastes, int[] order, int turned) {
        int sum = 0;
        int beside = 0;
        for (int guest : order) {
            int taste = tastes[guest];
            int value = switch (turned) {
                case 0 -> beside * taste - (taste > 5 ? 20 : 0) + 3 * taste;
                case 1 -> (taste > 4 ? 9 : 0) - (taste < 3 ? 9 : 0) - beside * (taste - 3);
                default -> 8 - (taste % 2 == 0 ? 17 : 0) + beside * (taste - 4) / 3;
            };
            beside = Math.max(-9, Math.min(9, value));
            sum += beside;
        }
        return sum;
    }

    private static void seatsOfSeveral() {
        // Each claps one more than beside, but f claps 9 in the first seat alone.
        ClapMill x = Due.mill("act a 9 1;guest a 1 0;guest b 1 0;guest c 1 0;guest d 1 0;guest e 1 0;guest f 2 0;"
                + "law clap beside + 1 + 8*(taste = 2 and beside = 0);");
        int[] order = {5, 0, 1, 2, 3, 4};
        for (int what = 0; what < 6; what++) {
            due.is("f first: seat " + what, x.seats(0, what), order[what]);
        }
        due.is("nine each", x.seats(0, 6), 54);
        // The whole order turned round: each claps only beside the next one's 0, 1, 2 .. claps.
        ClapMill y = Due.mill("act a 9 1;guest a 5 0;guest b 4 0;guest c 3 0;guest d 2 0;guest e 1 0;guest f 0 0;"
                + "law clap (beside + 1)*(beside = taste);");
        for (int what = 0; what < 6; what++) {
            due.is("turned round: seat " + what, y.seats(0, what), 5 - what);
        }
        due.is("1 to 6", y.seats(0, 6), 21);
        due.is("seats stay", Due.guest(y, 0, 2), 0);
    }

    // ---- promise 18

    private static void enoughForSums() {
        ClapMill x = Due.mill("act a 1 1;act b 9 1;" + SIX);
        for (int sum : new int[] {MIN, -2, -1, 0, 100, 101, MAX}) {
            due.is("enough(0, " + sum + ")", x.enough(0, sum), NONE);
        }
        for (int act : new int[] {MIN, -2, -1, 2, 3, MAX}) {
            due.is("enough(" + act + ", 1)", x.enough(act, 1), NONE);
        }
        int[] sums = {1, 4, 5, 6, 10, 11, 15, 16, 20, 21, 25, 26, 29, 30, 31, 98, 99};
        int[] bits = {1, 1, 1, 3, 3, 7, 7, 15, 15, 31, 31, 63, 63, 63, -2, -2, -2};
        for (int i = 0; i < sums.length; i++) {
            due.is("enough(0, " + sums[i] + ")", x.enough(0, sums[i]), bits[i]);
        }
        due.is("all below 0", x.enough(1, 1), -2);
        due.is("no guests", Due.mill("act a 1 1;").enough(0, 1), -2);
        due.is("by without, whatever the law", Due.mill("act a 1 1;guest g 1 0;law clap 9;").enough(0, 6), -2);
    }

    private static void enoughOfSeveral() {
        // Without: 0, 1, 2, 3, 4, 5.
        ClapMill x = Due.mill("act a 5 1;guest a 0 0;guest b 1 0;guest c 2 0;guest d 3 0;guest e 4 0;guest f 5 0;");
        due.is("1: b", x.enough(0, 1), 2);
        due.is("5: f", x.enough(0, 5), 32);
        due.is("6: c and e", x.enough(0, 6), 20);
        due.is("7: d and e", x.enough(0, 7), 24);
        due.is("8: d and f", x.enough(0, 8), 40);
        due.is("9: e and f", x.enough(0, 9), 48);
        due.is("10: b, e and f; c, d and f", x.enough(0, 10), 44);
        due.is("15: all but a", x.enough(0, 15), 62);
        due.is("16: by none", x.enough(0, 16), -2);
    }

    // ---- promise 19: "how many SPEEDS 1 .. 99 it is first to be GROUND at, as SACKS are now"

    private static void spanOfSpeeds() {
        int[][] grains = {{0, 0, 0}, {0, 1, 1}, {1, 1, 1}, {0, 99, 99}, {1, 99, 99}, {98, 99, 2}, {99, 99, 1}, {50, 49, 0}};
        for (int[] it : grains) {
            ClapMill x = Due.mill("grain o " + it[0] + " " + it[1] + " 1;");
            due.is("span of " + it[0] + " to " + it[1], x.span(0), it[2]);
        }
        ClapMill y = Due.mill("grain a 0 10 0;grain b 5 10 1;grain c 9 12 1;grain d 0 99 1;law turn 9;");
        int[] first = {0, 6, 2, 91};
        int[] second = {0, 0, 4, 95};
        int[] third = {0, 0, 0, 99};
        int[] fourth = {0, 0, 0, 0};
        for (int[] spans : new int[][] {first, second, third, fourth}) {
            for (int grain = 0; grain < 4; grain++) {
                due.is("span(" + grain + ") in minute " + y.count(5), y.span(grain), spans[grain]);
            }
            y.go(1);
        }
        for (int grain : new int[] {MIN, -2, -1, 4, 5, MAX}) {
            due.is("span(" + grain + ")", y.span(grain), NONE);
        }
    }

    // ---- promise 20

    private static void pushForMinutes() {
        ClapMill x = Due.mill("grain a 1 99 99;law turn 1;");
        for (int n : new int[] {MIN, -2, -1, 61, 62, MAX}) {
            due.is("pushFor(" + n + ", 1)", x.pushFor(n, 1), NONE);
        }
        due.is("0 minutes", x.pushFor(0, 1), -2);
        due.is("1 minute", x.pushFor(1, 1), 0);
        due.is("59 minutes, 59 sacks", x.pushFor(59, 59), 0);
        due.is("59 minutes, 60 sacks", x.pushFor(59, 60), -2);
        due.is("60 minutes, 60 sacks", x.pushFor(60, 60), 0);
        due.is("60 minutes, 61 sacks", x.pushFor(60, 61), -2);
    }

    private static void pushForSacks() {
        ClapMill x = Due.mill("grain a 1 99 99;law turn 1;law grit 9;");
        for (int sacks : new int[] {MIN, -2, -1, 0, 100, 101, MAX}) {
            due.is("pushFor(1, " + sacks + ")", x.pushFor(1, sacks), NONE);
        }
        due.is("9 sacks", x.pushFor(1, 9), 0);
        due.is("10 sacks", x.pushFor(1, 10), -2);
        due.is("99 sacks", x.pushFor(11, 99), 0);
        x.go(1);
        due.is("more than now: 90 are left", x.pushFor(60, 90), 0);
        due.is("more than now: 91 aren't", x.pushFor(60, 91), -2);
        // Three are ground, then one comes back in each minute but the first.
        ClapMill y = Due.mill("grain a 1 99 99;law turn 1 - 2*(minute > 0);law grit 3;");
        due.is("behind 1 minute", y.pushFor(1, 3), 0);
        due.is("behind 2 minutes", y.pushFor(2, 3), -2);
        due.is("two behind 2 minutes", y.pushFor(2, 2), 0);
    }

    private static void pushForSpeeds() {
        int[] lows = {1, 2, 98, 99};
        for (int low : lows) {
            ClapMill x = Due.mill("grain a " + low + " 99 99;law turn speed;");
            due.is("speed " + low + " at least", x.pushFor(1, 1), low);
            x.push(-50);
            due.is("in place of that of now", x.pushFor(1, 1), low);
            due.is("speed of now stays", x.count(6), -50);
        }
        due.is("speed 100 would do", Due.mill("grain a 99 99 99;law turn speed - 1;").pushFor(1, 1), -2);
        due.is("speed 0 does", Due.mill("grain a 1 1 1;law turn speed + 1;").pushFor(1, 1), 0);
        due.is("a speed below 0 would do", Due.mill("grain a 1 1 1;law turn 0 - speed;").pushFor(1, 1), -2);
    }

    // ---- promise 21

    private static void silenceOfMinutes() {
        ClapMill x = new ClapMill();
        for (int n : new int[] {MIN, -2, -1, 201, 202, MAX}) {
            due.is("silence(" + n + ")", x.silence(n), NONE);
        }
        for (int n : new int[] {0, 1, 2, 199, 200}) {
            due.is("silence(" + n + ")", x.silence(n), n);
        }
    }

    private static void silenceOfSpeeds() {
        for (int speed = -1; speed <= 1; speed++) {
            ClapMill x = Due.mill("law turn 1 - " + (1 - speed) + ";");
            due.is("speed " + speed, x.silence(5), speed == 0 ? 5 : 0);
        }
        // Silent in minutes 0, 1, 3, 4, 5, 7, 8.
        ClapMill y = Due.mill("law turn minute = 2 or minute = 6 or minute > 8;");
        int[] longest = {0, 1, 2, 2, 2, 2, 3, 3, 3, 3, 3};
        for (int n = 0; n < longest.length; n++) {
            due.is("silence(" + n + ")", y.silence(n), longest[n]);
        }
        y.go(4);
        due.is("from minute 4 on", y.silence(7), 2);
    }

    // ---- promise 22: "who makes it more than its HIGH, loses; it is more already: nobody wins"

    private static void gameOfSpeeds() {
        for (int room = -2; room <= 9; room++) {
            ClapMill x = Due.mill("grain a 0 10 1;");
            x.push(10 - room);
            due.is("who wins, room " + room, x.game(0, 0), room < 0 ? 2 : room % 4 == 0 ? 1 : 0);
            due.is("adds first, room " + room, x.game(0, 1), room <= 0 || room % 4 == 0 ? -2 : room % 4);
        }
        ClapMill y = Due.mill("grain a 0 99 0;grain b 0 0 0;");
        y.push(99);
        due.is("as much as it may be", y.game(0, 0), 1);
        due.is("more already", y.game(1, 0), 2);
        y.push(-99);
        y.push(-99);
        due.is("from -99 to 99", y.game(0, 0), 0);
        due.is("adds 198 modulo 4", y.game(0, 1), 2);
        due.is("from -99 to 0", y.game(1, 1), 3);
    }

    private static void gameOfWrongOnes() {
        ClapMill x = Due.mill("grain a 0 9 1;grain b 0 9 1;grain c 0 9 1;grain d 0 9 1;");
        for (int grain : new int[] {MIN, -2, -1, 4, 5, MAX}) {
            for (int what = -1; what <= 2; what++) {
                due.is("game(" + grain + ", " + what + ")", x.game(grain, what), NONE);
            }
        }
        for (int what : new int[] {MIN, -2, -1, 2, 3, MAX}) {
            due.is("game(0, " + what + ")", x.game(0, what), NONE);
        }
        due.is("the last grain", x.game(3, 1), 1);
    }

    // ---- promises 23 and 24

    private static void claqueOfWrongOnes() {
        ClapMill x = Due.mill("act a 1 1;act b 1 1;act c 1 1;act d 1 1;act e 1 1;act f 1 1;" + SIX);
        int[] wrong = {MIN, -2, -1, 6, 7, MAX};
        for (int no : wrong) {
            due.is("rests of no such first " + no, x.rests(no, 0, 0), NONE);
            due.is("rests of no such second " + no, x.rests(0, no, 0), NONE);
            due.is("rests of no such act " + no, x.rests(0, 1, no), NONE);
            due.is("rest of no such first " + no, x.rest(no, 0, 0, 0), NONE);
            due.is("rest of no such second " + no, x.rest(0, no, 0, 0), NONE);
            due.is("rest of no such act " + no, x.rest(0, 1, no, 0), NONE);
            due.is("rest of no such act " + no + ", not so many", x.rest(0, 1, no, 9), NONE);
        }
        for (int guest = 0; guest < 6; guest++) {
            due.is("rests of alike " + guest, x.rests(guest, guest, 0), NONE);
            due.is("rest of alike " + guest, x.rest(guest, guest, 0, 0), NONE);
        }
        due.is("the last ones", x.rests(4, 5, 5), 1);
        due.is("the last ones turned round", x.rest(5, 4, 5, 0), 0);
        for (int k : new int[] {MIN, -2, -1}) {
            due.is("k " + k, x.rest(0, 1, 0, k), NONE);
        }
        for (int k : new int[] {1, 2, 3, 4, MAX}) {
            due.is("k " + k, x.rest(0, 1, 0, k), -2);
        }
    }

    /** "A REST: neither would have more otherwise": with alike gains both are rests. */
    private static void claqueOfAlikeGains() {
        // Without -1, hunger 0: both clap 1 (as sitting beside a clap), alone -1.
        ClapMill x = Due.mill("act a 6 1;guest g 0 0;guest h 0 0;");
        due.is("both have 1 either way", x.rests(0, 1, 0), 2);
        due.is("both clap", x.rest(0, 1, 0, 0), 0);
        due.is("both sit", x.rest(0, 1, 0, 1), 11);
        // Without -2: both clap 0, less than 1.
        ClapMill y = Due.mill("act a 7 1;guest g 0 0;guest h 0 0;");
        due.is("0 is less than 1", y.rests(0, 1, 0), 1);
        due.is("both sit", y.rest(0, 1, 0, 0), 11);
        // Without 0, hunger 0: both clap 2, alone 0, as both sit.
        ClapMill z = Due.mill("act a 5 1;guest g 0 0;guest h 0 0;");
        due.is("0 alone is no more than 0", z.rests(0, 1, 0), 2);
        // Without 1, hunger 0: alone 1 is more than 0, both clap 3.
        due.is("1 alone is more than 0", Due.mill("act a 4 1;guest g 0 0;guest h 0 0;").rests(0, 1, 0), 1);
        // Without 1, hunger 6: both 1, alone -2. Without 1, hunger 1: both 3, alone 1.
        ClapMill w = Due.mill("act a 4 1;guest g 0 6;guest h 0 1;");
        due.is("g claps or sits beside h", w.rests(0, 1, 0), 2);
        due.is("both clap", w.rest(0, 1, 0, 0), 0);
        due.is("g sits, h claps", w.rest(0, 1, 0, 1), 10);
        due.is("turned round", w.rest(1, 0, 0, 1), 1);
    }

    /** "less its HUNGER by 3, cut", "less its HUNGER by 2, cut": each hunger from 0 to 9. */
    private static void claqueCuts() {
        for (int mood = 0; mood <= 9; mood++) {
            for (int hunger = 0; hunger <= 9; hunger++) {
                ClapMill x = Due.mill("act a " + mood + " 1;guest g 0 " + hunger + ";guest h 0 " + hunger + ";");
                int both = 5 - mood + 2 - hunger / 3;
                int alone = 5 - mood - hunger / 2;
                int rests = (both >= 1 ? 1 : 0) + (alone <= 0 ? 1 : 0) + (both <= 1 && alone >= 0 ? 2 : 0);
                due.is("rests of mood " + mood + ", hunger " + hunger, x.rests(0, 1, 0), rests);
                due.is("the last one", x.rest(0, 1, 0, rests), -2);
                due.is("the first one", x.rest(0, 1, 0, 0), both >= 1 ? 0 : both <= 1 && alone >= 0 ? 1 : 11);
            }
        }
    }

    // ---- promise 25

    private static void dearestOfActs() {
        ClapMill x = Due.mill("act a 0 1;act b 9 1;guest a 0 0;guest b 4 0;guest c 5 0;guest d 9 0;guest e 0 0;guest f 9 0;");
        int[] dearest = {0, 0, 1, 1, 0, 1};
        for (int guest = 0; guest < 6; guest++) {
            due.is("dearest(" + guest + ")", x.dearest(guest), dearest[guest]);
        }
        for (int guest : new int[] {MIN, -2, -1, 6, 7, MAX}) {
            due.is("dearest(" + guest + ")", x.dearest(guest), NONE);
            due.is("dearest(" + guest + ") without acts", Due.mill(SIX).dearest(guest), NONE);
        }
        due.is("no acts", Due.mill(SIX).dearest(5), -2);
        due.is("a single act, as far as may be", Due.mill("act a 9 1;guest g 0 0;").dearest(0), 0);
        due.is("the last of six", Due.mill("act a 9 1;act b 8 1;act c 7 1;act d 6 1;act e 5 1;act f 4 1;guest g 0 0;").dearest(0), 5);
        due.is("the first of several on both sides", Due.mill("act a 6 1;act b 4 1;guest g 5 0;").dearest(0), 0);
    }

    // ---- promise 26

    private static long power(long base, int n) {
        long power = 1;
        for (int i = 0; i < n; i++) {
            power *= base;
        }
        return power;
    }

    private static void quietOfCoughs() {
        for (int cough = 0; cough <= 100; cough++) {
            ClapMill x = Due.mill("cough " + cough + ";");
            long common = 100;
            while ((100 - cough) % common != 0 || 100 % common != 0) {
                common--;
            }
            for (int n = 0; n <= 6; n++) {
                due.is("cough " + cough + ", above for " + n, x.quiet(n, 0), power((100 - cough) / common, n));
                due.is("cough " + cough + ", below for " + n, x.quiet(n, 1), power(100 / common, n));
            }
        }
        ClapMill y = Due.mill("cough 100;");
        due.is("never for 1: 0", y.quiet(1, 0), 0);
        due.is("by 1", y.quiet(1, 1), 1);
        due.is("for 0: 1", y.quiet(0, 0), 1);
        due.is("by 1", y.quiet(0, 1), 1);
        due.is("cough 50 for 6", Due.mill("cough 50;").quiet(6, 1), 64);
        due.is("cough 1 for 6", Due.mill("cough 1;").quiet(6, 1), 1000000000000L);
    }

    private static void quietOfWrongOnes() {
        ClapMill x = Due.mill("cough 40;");
        for (int n : new int[] {MIN, -2, -1, 7, 8, MAX}) {
            due.is("quiet(" + n + ", 0)", x.quiet(n, 0), NONE);
            due.is("quiet(" + n + ", 1)", x.quiet(n, 1), NONE);
        }
        for (int what : new int[] {MIN, -2, -1, 2, 3, MAX}) {
            due.is("quiet(0, " + what + ")", x.quiet(0, what), NONE);
            due.is("quiet(6, " + what + ")", x.quiet(6, what), NONE);
        }
    }
}
