import java.util.ArrayList;
import java.util.List;

/**
 * All promises: a call that can't be done leaves all as it was, and so does a call that only asks. Two mills are
 * made alike, one of them is called, and both are compared in all that they answer from there on.
 */
public final class RefusedTest {
    private static final int NONE = ClapMill.NONE;
    private static final int NOT_SO = -2;
    private static final int LOW = Integer.MIN_VALUE;
    private static final int[] NOT_OF_SIX = {LOW, -2, -1, 6, 7, Integer.MAX_VALUE};
    private static final int BLANKS = 0x20202020;
    private static final Due due = new Due();

    private static final String HALL = "act a 4 3;act b 1 2;act c 6 4;act d 9 1;act e 2 2;act f 0 9;"
            + "guest a 4 0;guest b 1 0;guest c 6 2;guest d 2 9;guest e 8 3;guest f 5 5;"
            + "grain a 1 9 60;grain b 2 30 50;grain c 1 99 9;grain d 1 99 0;"
            + "show a 3;show b 4;show c 30;cough 40;seed 9;law clap 5 - tired + beside/2 + hunger/9 - mood/4 + taste/5;law grit 1 + speed/8;";

    /** How a mill comes into a state; each makes a new one, always alike. */
    private interface Made {
        ClapMill mill();
    }

    /** A call, with what it answers. */
    private interface Call {
        long on(ClapMill mill);
    }

    public static void main(String[] args) {
        List<Made> states = List.of(ClapMill::new, RefusedTest::inTheMidst, RefusedTest::atTheEnds);
        for (int i = 0; i < states.size(); i++) {
            alike("state " + i, states.get(i), List.of());
            refusedEverywhere("state " + i, states.get(i));
            askedEverywhere("state " + i, states.get(i));
        }
        refusedWithoutLines();
        refusedAtTheEnds();
        refusedInTheMidst();
        textsWithFaults();
        notAlike();
        due.end();
    }

    // ---- the states

    /** An act on, seats changed, speed pushed, an image, sights and strikes, some to undo, a fault, a tape. */
    private static ClapMill inTheMidst() {
        ClapMill x = Due.mill(HALL);
        x.go(4);
        x.see(3, 2, true);
        x.see(9, 40, false);
        x.strike(1);
        x.keep();
        x.go(4);
        x.push(20);
        x.change(0, 5);
        x.stage(2);
        x.change(2, 3);
        x.known(2);
        Due.tell(x, "act a 4 3;act b 10 2;");
        x.feed(0x61637420, 0x61203420, 0x333b2020, BLANKS, BLANKS); // act a 4 3;
        x.feed(BLANKS, 0x73656564, 0x20353b20, BLANKS, BLANKS); // seed 5;
        return x;
    }

    /** Minute 9000, speed 99, something on, 24 seen, 20 to undo, a full tape. */
    private static ClapMill atTheEnds() {
        ClapMill x = Due.mill(HALL);
        x.go(100);
        x.keep();
        for (int i = 0; i < 44; i++) {
            x.go(200);
        }
        x.go(100);
        for (int i = 0; i < 12; i++) {
            x.see(1 + i, i, i % 2 == 0);
            x.strike(i);
        }
        x.stage(5);
        for (int i = 0; i < 20; i++) {
            x.push(i % 2 == 0 ? 99 : 1);
        }
        for (int i = 0; i < 35; i++) {
            x.feed(BLANKS, BLANKS, BLANKS, BLANKS, BLANKS + i % 2);
        }
        return x;
    }

    // ---- comparing

    /** An object is used for 512 calls at most, so some of them at a time. */
    private static void alike(String told, Made state, List<Call> calls) {
        for (int from = 0; from == 0 || from < calls.size(); from += 40) {
            ClapMill called = state.mill();
            for (Call call : calls.subList(from, Math.min(from + 40, calls.size()))) {
                call.on(called);
            }
            long[] got = Whole.toTheEnd(called);
            long[] want = Whole.toTheEnd(state.mill());
            due.is(told + ": as many answers", got.length, want.length);
            for (int i = 0; i < want.length && i < got.length; i++) {
                due.is(told + ", calls from " + from + " on: answer " + i, got[i], want[i]);
            }
        }
    }

    /** Each call alone answers that, and all of them leave a mill of that state as it was. */
    private static void refuses(String told, Made state, long answer, List<Call> calls) {
        ClapMill x = state.mill();
        for (int i = 0; i < calls.size(); i++) {
            due.is(told + ", call " + i, calls.get(i).on(x), answer);
        }
        alike(told, state, calls);
    }

    /** The comparison itself must tell calls that change something. */
    private static void notAlike() {
        List<Call> changing = List.of(x -> x.push(-1), x -> x.change(1, 4), x -> x.go(1), x -> x.undo(), x -> x.keep(),
                x -> x.back(), x -> x.see(1, 99, true), x -> x.strike(0), x -> x.known(1) ? 1 : 0, x -> x.text(0),
                x -> x.feed(-1, -1, -1, -1, -1));
        for (int i = 0; i < changing.size(); i++) {
            ClapMill called = inTheMidst();
            changing.get(i).on(called);
            long[] got = Whole.toTheEnd(called);
            due.is("call " + i + " is told", java.util.Arrays.equals(got, Whole.toTheEnd(inTheMidst())), false);
        }
    }

    // ---- refused in any state

    private static void refusedEverywhere(String told, Made state) {
        List<Call> notSo = new ArrayList<>();
        List<Call> none = new ArrayList<>();
        List<Call> low = new ArrayList<>();
        for (int n : new int[] {LOW, -2, -1, 701, Integer.MAX_VALUE}) {
            notSo.add(x -> x.text(n));
        }
        for (int no : NOT_OF_SIX) {
            none.add(x -> x.stage(no));
            none.add(x -> x.change(no, 0));
            none.add(x -> x.change(0, no));
            none.add(x -> x.change(no, no));
            none.add(x -> x.enough(no, 1));
            none.add(x -> x.span(no));
            none.add(x -> x.game(no, 0));
            none.add(x -> x.rests(no, 1, 0));
            none.add(x -> x.rest(0, no, 0, 0));
            none.add(x -> x.dearest(no));
            none.add(x -> x.moods(no));
            none.add(x -> x.ask(no, 0));
            none.add(x -> x.tried(2, no, 5));
            low.add(x -> x.seats(no, 0));
            low.add(x -> x.ahead(5, 1, no));
            low.add(x -> x.ahead(5, 4, no));
        }
        for (int guest = 0; guest < 6; guest++) {
            int it = guest;
            none.add(x -> x.change(it, it));
        }
        addWrongNumbers(none, low);
        refuses(told + ", -2", state, NOT_SO, notSo);
        refuses(told + ", NONE", state, NONE, none);
        refuses(told + ", the least int", state, LOW, low);
        refusedWithAnException(told, state);
    }

    private static void addWrongNumbers(List<Call> none, List<Call> low) {
        for (int no : new int[] {LOW, -1, 201, Integer.MAX_VALUE}) {
            none.add(x -> x.go(no));
            none.add(x -> x.silence(no));
            none.add(x -> x.tried(0, 0, no));
            none.add(x -> x.tried(no, 0, 5));
            low.add(x -> x.ahead(no, 0, 0));
            low.add(x -> x.count(no));
        }
        for (int no : new int[] {LOW, -100, 0, 100, Integer.MAX_VALUE}) {
            low.add(x -> x.push(no));
        }
        for (int no : new int[] {LOW, -1, 1000, Integer.MAX_VALUE}) {
            none.add(x -> x.flour(no));
            none.add(x -> x.see(1, no, true));
            none.add(x -> x.chance(1, 1, no));
            none.add(x -> x.bill(no));
            none.add(x -> x.fault(no));
        }
        for (int no : new int[] {LOW, -1, 0, 61, Integer.MAX_VALUE}) {
            none.add(x -> x.see(no, 1, false));
            none.add(x -> x.pushFor(no == 0 ? -1 : no, 1));
            none.add(x -> x.pushFor(5, no == 61 ? 100 : no));
        }
        for (int no : new int[] {LOW, -1, 24, Integer.MAX_VALUE}) {
            none.add(x -> x.strike(no));
            none.add(x -> x.quiet(no, 0));
        }
        for (int no : new int[] {LOW, -2, 25, Integer.MAX_VALUE}) {
            none.add(x -> x.known(no) ? 1 : NONE);
        }
    }

    private static void refusedWithAnException(String told, Made state) {
        List<Call> noGuest = new ArrayList<>();
        for (int no : NOT_OF_SIX) {
            noGuest.add(x -> Due.guest(x, no, 0));
            noGuest.add(x -> Due.guest(x, no, 5));
        }
        refuses(told + ", no such guest", state, 1001, noGuest);
    }

    // ---- refused by what the state is

    private static void refusedWithoutLines() {
        refuses("new, NONE", ClapMill::new, NONE, List.of(x -> x.stage(0), x -> x.change(0, 1), x -> x.undo(), x -> x.back(),
                x -> x.strike(0), x -> x.act(0, 0), x -> x.grain(0, 0), x -> x.named(0, 1 << 25)));
        refuses("new, -2", ClapMill::new, NOT_SO, List.of(x -> x.text(1), x -> x.bill(0), x -> x.flour(1), x -> x.pushFor(60, 1)));
    }

    private static void refusedAtTheEnds() {
        ClapMill x = atTheEnds();
        due.is("minute 9000", x.count(5), 9000);
        due.is("24 seen", x.count(13), 24);
        due.is("20 to undo", x.count(15), 20);
        refuses("the ends, NONE", RefusedTest::atTheEnds, NONE, List.of(y -> y.go(1), y -> y.go(200), y -> y.see(1, 1, true),
                y -> y.strike(0), y -> y.strike(23), y -> y.feed(1, 2, 3, 4, 5)));
        refuses("the ends, -2", RefusedTest::atTheEnds, NOT_SO, List.of(y -> y.stage(0), y -> y.stage(5), y -> y.text(701)));
        refuses("the ends, no such what", RefusedTest::atTheEnds, 1002, List.of(y -> Due.guest(y, 0, -1), y -> Due.guest(y, 5, 5)));
        alike("no minutes at the ends", RefusedTest::atTheEnds, List.of(y -> y.go(0)));
    }

    private static void refusedInTheMidst() {
        refuses("the midst, -2", RefusedTest::inTheMidst, NOT_SO, List.of(x -> x.stage(0), x -> x.stage(2), x -> x.text(41),
                x -> x.rest(0, 1, 0, 9), x -> x.flour(999), x -> x.pushFor(0, 1), x -> x.enough(0, 99)));
        refuses("the midst, NONE", RefusedTest::inTheMidst, NONE, List.of(x -> x.strike(3), x -> x.known(4) ? 1 : NONE));
        alike("no minutes in the midst", RefusedTest::inTheMidst, List.of(x -> x.go(0)));
    }

    /** "NONE with a FAULT, all stays": all but the tape, which is empty then, and the fault itself. */
    private static void textsWithFaults() {
        String[] spoilt = {"act", "act a 0 1;guest b 1 2;act a 1 1;", "law clap 1;law turn 1;law grit 10000;", "cough 0;cough 1;",
            "seed 1;show a 1;", HALL + "#", "grain z 1 2 3;grain y 1 2 100;", "law grit 9"};
        for (String text : spoilt) {
            Made emptied = () -> {
                ClapMill x = inTheMidst();
                x.text(3);
                return x;
            };
            // Another fault behind it, so that both have the same latest one.
            alike("spoilt '" + text + "'", emptied, List.of(x -> Due.tell(x, text), x -> Due.tell(x, "act")));
            ClapMill y = emptied.mill();
            due.is("spoilt '" + text + "'", Due.tell(y, text), NONE);
        }
        ClapMill z = inTheMidst();
        due.is("the fault that both have", z.text(3), NONE);
        due.is("its kind", z.fault(0), 1);
        due.is("its place", z.fault(1), 3);
    }

    // ---- asking

    private static void askedEverywhere(String told, Made state) {
        List<Call> asked = new ArrayList<>();
        for (int i = 0; i <= 16; i++) {
            int it = i;
            asked.add(x -> x.count(it));
            asked.add(x -> x.fault(it));
            asked.add(x -> x.named(it, 1 << 25));
            asked.add(x -> x.bill(it));
            asked.add(x -> x.span(it));
            asked.add(x -> x.dearest(it));
            asked.add(x -> x.moods(it));
            asked.add(x -> x.flour(it * 60));
            asked.add(x -> x.silence(it * 12));
        }
        for (int i = 0; i < 6; i++) {
            int it = i;
            for (int k = 0; k < 7; k++) {
                int what = k;
                asked.add(x -> Due.guest(x, it, what));
                asked.add(x -> x.act(it, what));
                asked.add(x -> x.grain(it, what));
                asked.add(x -> x.law(what, it));
                asked.add(x -> x.ahead(200, what, it));
                asked.add(x -> x.seats(it, what));
                asked.add(x -> x.enough(it, 5 * what));
                asked.add(x -> x.game(it, what));
                asked.add(x -> x.rests(it, what, it));
                asked.add(x -> x.rest(it, what, it, 0));
                asked.add(x -> x.quiet(what, it));
                asked.add(x -> x.ask(it, what));
                asked.add(x -> x.tried(what, what == 2 ? it : 0, 199 + what % 2));
                asked.add(x -> x.chance(it * 7, 1 + what * 16, 10 * it));
                asked.add(x -> x.pushFor(10 * it, what * 16));
            }
        }
        alike(told + ", asked", state, asked);
    }
}
