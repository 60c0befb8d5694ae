/**
 * Promises 34 to 37 and the document's section 4: each limit of undoing, of images and of counts, at it and a
 * step to each side of it.
 */
public final class UndoEdgeTest {
    private static final int NONE = ClapMill.NONE;
    private static final int LOW = Integer.MIN_VALUE;
    private static final Due due = new Due();

    private static final String HALL = "act a 4 3;act b 1 2;guest g 4 0;guest h 1 0;guest i 6 2;grain o 1 99 99;grain w 1 2 9;"
            + "show a 3;show a 4;cough 40;seed 9;law clap 5 - tired + beside/2;";

    public static void main(String[] args) {
        undoOfNone();
        undoOfEachKind();
        undoTwenty();
        undoOldestIsLost();
        undoNotBehindAMinute();
        undoByMinutesOfNone();
        undoOfRefusedCalls();
        undoBehindText();
        undoOfAPushAtTheEnd();
        undoLatestFirst();
        keepAndBack();
        backWithoutAnImage();
        backAgain();
        backInPlaceOfOneAhead();
        backToTheLatestGrain();
        backLeavesWhatWasSeen();
        backLeavesNothingToUndo();
        backFromMinuteNineThousand();
        imageIsGoneByText();
        imageStaysWithAFault();
        countsOfWhat();
        countsOfAFullHall();
        due.end();
    }

    // ---- promise 34: "The latest is undone: how many are left; NONE: none."

    private static void undoOfNone() {
        ClapMill x = new ClapMill();
        due.is("none", x.undo(), NONE);
        due.is("none again", x.undo(), NONE);
        x.push(3);
        due.is("one", x.undo(), 0);
        due.is("none then", x.undo(), NONE);
        due.is("speed stays", x.count(6), 0);
    }

    private static void undoOfEachKind() {
        ClapMill x = Due.mill(HALL);
        x.go(1);
        x.push(30);
        due.is("undo a push", x.undo(), 0);
        due.is("speed of before", x.count(6), 0);
        x.stage(1);
        due.is("undo a stage", x.undo(), 0);
        due.is("nothing is on", x.count(12), -2);
        due.is("for no minutes", x.act(1, 2), 0);
        due.is("it can be staged again", x.stage(0), 3);
        x.undo();
        x.change(0, 2);
        due.is("undo a change", x.undo(), 0);
        due.is("seat of the first", Due.guest(x, 0, 2), 0);
        due.is("seat of the other", Due.guest(x, 2, 2), 2);
        x.go(3);
        due.is("the show isn't refused by a stage undone", x.count(9), 0);
        due.is("the show is on", x.act(0, 2), 2);
    }

    private static void undoTwenty() {
        for (int steps = 18; steps <= 22; steps++) {
            ClapMill x = new ClapMill();
            for (int i = 1; i <= steps; i++) {
                x.push(1);
                due.is("can be undone behind " + i, x.count(15), Math.min(i, 20));
            }
            for (int left = Math.min(steps, 20) - 1; left >= 0; left--) {
                due.is("left of " + steps, x.undo(), left);
                due.is("can be undone", x.count(15), left);
            }
            due.is("none left of " + steps, x.undo(), NONE);
            due.is("speed behind " + steps, x.count(6), Math.max(0, steps - 20));
        }
    }

    private static void undoOldestIsLost() {
        ClapMill x = Due.mill(HALL);
        x.stage(0);
        x.change(0, 1);
        for (int i = 0; i < 19; i++) {
            x.push(1);
        }
        for (int i = 0; i < 19; i++) {
            x.undo();
        }
        due.is("the pushes are undone", x.count(6), 0);
        due.is("the change is the last one", x.undo(), 0);
        due.is("it is undone", Due.guest(x, 0, 2), 0);
        due.is("the stage is lost", x.undo(), NONE);
        due.is("what was staged is on", x.count(12), 0);
        for (int i = 0; i < 50; i++) {
            x.change(i % 3, (i + 1) % 3);
        }
        due.is("20 at most", x.count(15), 20);
    }

    // ---- "if no MINUTE went by since"

    private static void undoNotBehindAMinute() {
        ClapMill x = Due.mill(HALL);
        x.push(5);
        x.change(0, 1);
        x.stage(1);
        x.go(1);
        due.is("nothing can be undone", x.count(15), 0);
        due.is("none", x.undo(), NONE);
        due.is("seats stay", Due.guest(x, 0, 2), 1);
        x.push(7);
        due.is("what came since can", x.count(15), 1);
        due.is("undo", x.undo(), 0);
        due.is("none behind it", x.undo(), NONE);
    }

    private static void undoByMinutesOfNone() {
        ClapMill x = Due.mill(HALL);
        x.push(5);
        x.go(0);
        due.is("no minute went by", x.count(15), 1);
        x.go(-1);
        x.go(201);
        due.is("refused minutes don't go by", x.count(15), 1);
        x.ahead(200, 0, 0);
        x.flour(999);
        x.bill(0);
        x.pushFor(60, 99);
        x.silence(200);
        x.chance(1, 99, 1);
        x.tried(0, 0, 200);
        x.moods(0);
        due.is("minutes that are asked for don't go by", x.count(15), 1);
        due.is("undo", x.undo(), 0);
        due.is("speed of before", x.count(6), 0);
    }

    private static void undoOfRefusedCalls() {
        ClapMill x = Due.mill(HALL);
        x.stage(0);
        x.stage(1);
        x.stage(9);
        x.change(1, 1);
        x.change(0, 3);
        x.push(0);
        x.push(100);
        due.is("a single one can be undone", x.count(15), 1);
        due.is("undo", x.undo(), 0);
        due.is("nothing on", x.count(12), -2);
    }

    private static void undoBehindText() {
        ClapMill x = Due.mill(HALL);
        x.push(5);
        x.change(0, 1);
        Due.tell(x, "cough");
        due.is("with a fault all stays", x.count(15), 2);
        x.text(-1);
        due.is("by -2 too", x.count(15), 2);
        Due.tell(x, HALL);
        due.is("nothing to undo then", x.undo(), NONE);
    }

    private static void undoOfAPushAtTheEnd() {
        for (int sign = -1; sign <= 1; sign += 2) {
            ClapMill x = new ClapMill();
            x.push(98 * sign);
            x.push(5 * sign);
            x.push(5 * sign);
            due.is("three", x.count(15), 3);
            x.undo();
            due.is("99 either way", x.count(6), 99 * sign);
            x.undo();
            due.is("98, not 94", x.count(6), 98 * sign);
            x.undo();
            due.is("0", x.count(6), 0);
        }
    }

    private static void undoLatestFirst() {
        ClapMill x = Due.mill(HALL);
        x.change(0, 1);
        x.change(1, 2);
        x.change(0, 2);
        // Seats by guests: 1 0 2, then 2 0 1 behind both, and the third puts 0 and 2 in each other's seats.
        due.is("seat of g", Due.guest(x, 0, 2), 0);
        due.is("seat of h", Due.guest(x, 1, 2), 2);
        due.is("seat of i", Due.guest(x, 2, 2), 1);
        x.undo();
        due.is("seat of g, two left", Due.guest(x, 0, 2), 1);
        due.is("seat of h, two left", Due.guest(x, 1, 2), 2);
        x.undo();
        due.is("seat of h, one left", Due.guest(x, 1, 2), 0);
        due.is("seat of i, one left", Due.guest(x, 2, 2), 2);
        x.undo();
        for (int guest = 0; guest < 3; guest++) {
            due.is("seat as told", Due.guest(x, guest, 2), guest);
        }
    }

    // ---- promises 35 and 36

    private static long[] all(ClapMill x) {
        return Whole.now(x);
    }

    private static void same(String what, long[] got, long[] want) {
        for (int i = 0; i < want.length; i++) {
            due.is(what + ", answer " + i, got[i], want[i]);
        }
    }

    private static void keepAndBack() {
        ClapMill x = Due.mill(HALL);
        due.is("keep in minute 0", x.keep(), 0);
        long[] first = all(x);
        x.go(4);
        x.push(9);
        x.change(0, 2);
        due.is("back to minute 0", x.back(), 0);
        same("minute 0", all(x), first);
        x.go(5);
        x.change(1, 2);
        x.push(-4);
        long[] then = all(x);
        due.is("keep in minute 5", x.keep(), 5);
        same("keeping changes nothing", all(x), then);
        x.go(1);
        due.is("back to minute 5", x.back(), 5);
        long[] now = all(x);
        now[15] = then[15];
        same("minute 5", now, then);
    }

    private static void backWithoutAnImage() {
        ClapMill x = Due.mill(HALL);
        x.push(4);
        x.go(2);
        x.push(3);
        long[] then = all(x);
        due.is("there is none", x.back(), NONE);
        same("all stays", all(x), then);
        due.is("what can be undone stays", x.undo(), 0);
    }

    private static void backAgain() {
        ClapMill x = Due.mill(HALL);
        x.go(4);
        x.keep();
        x.go(3);
        long[] later = all(x);
        for (int i = 0; i < 3; i++) {
            due.is("back", x.back(), 4);
            x.go(3);
            same("the same numbers come", all(x), later);
        }
        x.back();
        x.push(50);
        x.stage(1);
        x.back();
        due.is("the image isn't pushed", x.count(6), x.ahead(0, 2, 0));
        x.go(3);
        same("the image stays as it was", all(x), later);
    }

    private static void backInPlaceOfOneAhead() {
        ClapMill x = Due.mill(HALL);
        x.keep();
        x.go(3);
        x.keep();
        x.go(3);
        due.is("the latest image", x.back(), 3);
        x.back();
        due.is("the one ahead of it is gone", x.count(5), 3);
    }

    /** Which grain was ground latest is kept, too. */
    private static void backToTheLatestGrain() {
        ClapMill x = Due.mill("grain o 1 9 9;grain w 40 99 9;law turn speed;");
        x.push(5);
        x.go(1);
        x.keep();
        x.push(45);
        x.go(1);
        due.is("w is the latest", x.grain(1, 3), 1);
        due.is("back", x.back(), 1);
        due.is("none of w is ground", x.grain(1, 3), 0);
        x.push(-9);
        x.go(1);
        due.is("o comes back", x.grain(0, 3), 0);
        x.back();
        x.push(45);
        x.go(1);
        x.keep();
        x.push(-45);
        x.go(1);
        due.is("two of o", x.grain(0, 3), 2);
        x.back();
        x.push(-99);
        x.go(1);
        due.is("w comes back", x.grain(1, 3), 0);
        due.is("o stays", x.grain(0, 3), 1);
    }

    private static void backLeavesWhatWasSeen() {
        ClapMill x = Due.mill(HALL);
        x.see(1, 1, true);
        x.keep();
        x.see(2, 1, true);
        x.strike(0);
        due.is("back", x.back(), 0);
        due.is("three are seen", x.count(13), 3);
        due.is("the next number", x.see(1, 1, true), 3);
    }

    private static void backLeavesNothingToUndo() {
        ClapMill x = Due.mill(HALL);
        x.push(5);
        x.keep();
        due.is("keeping leaves what can be undone", x.count(15), 1);
        x.push(6);
        due.is("back", x.back(), 0);
        due.is("speed 5", x.count(6), 5);
        due.is("nothing to undo", x.count(15), 0);
        due.is("none", x.undo(), NONE);
        due.is("speed 5 still", x.count(6), 5);
    }

    private static void backFromMinuteNineThousand() {
        ClapMill x = Due.mill(HALL);
        x.go(2);
        x.keep();
        x.go(198);
        for (int i = 0; i < 44; i++) {
            x.go(200);
        }
        due.is("9000", x.count(5), 9000);
        due.is("go(1)", x.go(1), NONE);
        due.is("back", x.back(), 2);
        due.is("go(1) again", x.go(1), 3);
        due.is("keep in minute 3", x.keep(), 3);
    }

    private static void imageIsGoneByText() {
        ClapMill x = Due.mill(HALL);
        x.go(2);
        x.keep();
        Due.tell(x, HALL);
        due.is("no image", x.back(), NONE);
        due.is("minute 0", x.count(5), 0);
    }

    private static void imageStaysWithAFault() {
        ClapMill x = Due.mill(HALL);
        x.go(2);
        x.keep();
        x.go(2);
        due.is("a fault", Due.tell(x, "act"), NONE);
        due.is("back", x.back(), 2);
        due.is("the fault of the latest text", x.fault(0), 1);
    }

    // ---- promise 37

    private static void countsOfWhat() {
        for (int what : new int[] {LOW, -2, -1, 16, 17, Integer.MAX_VALUE}) {
            due.is("new: count(" + what + ")", new ClapMill().count(what), LOW);
            due.is("count(" + what + ")", Due.mill(HALL).count(what), LOW);
        }
        ClapMill x = Due.mill(HALL);
        int[] want = {2, 3, 2, 2, 7, 0, 0, 108, 0, 0, 0, 0, -2, 0, 0, 0};
        for (int what = 0; what <= 15; what++) {
            due.is("count(" + what + ")", x.count(what), want[what]);
        }
    }

    private static void countsOfAFullHall() {
        ClapMill x = Due.mill("act a 1 9;act b 1 1;act c 1 1;act d 1 1;act e 1 1;act f 1 1;"
                + "guest a 1 0;guest b 1 0;guest c 1 0;guest d 1 0;guest e 1 0;guest f 1 0;"
                + "grain a 1 99 99;grain b 1 99 99;grain c 1 99 99;grain d 1 99 99;"
                + "show a 0;show a 1;show a 2;show a 3;show a 4;show a 5;show a 6;show a 7;show a 8;show a 9;show a 10;show a 11;"
                + "show a 12;show a 13;cough 100;law clap 9;law turn 0-99*(minute > 9) + 50*(minute < 10);law grit 9;");
        due.is("sacks told", x.count(7), 396);
        x.go(10);
        int[] want = {6, 6, 4, 14, 15, 10, 50, 306, 90, 8, 10, 60, 0, 0, 0, 0};
        for (int what = 0; what <= 15; what++) {
            due.is("full: count(" + what + ")", x.count(what), want[what]);
        }
        x.go(1);
        due.is("speed below 0", x.count(6), -99);
        due.is("one came back: left", x.count(7), 307);
        due.is("one came back: ground", x.count(8), 89);
        x.go(7);
        due.is("a is over", x.count(12), -2);
        x.stage(5);
        due.is("the last act is on", x.count(12), 5);
    }
}
