import java.util.ArrayList;
import java.util.List;

/** All that a mill answers, to tell whether a call has left everything as it was; some 330 calls. */
final class Whole {
    private final ClapMill mill;
    private final List<Long> answers = new ArrayList<>();

    private Whole(ClapMill mill) {
        this.mill = mill;
    }

    /** What can be told now without changing anything; answers 0 to 15 are those of count. */
    static long[] now(ClapMill mill) {
        Whole whole = new Whole(mill);
        whole.askCounts(0, 15);
        whole.askText();
        whole.askHall();
        return whole.row();
    }

    /**
     * What can be told now, what comes, and what only shows when calls are made: what can be undone, the image,
     * the numbers, the tape. The mill isn't what it was then.
     */
    static long[] toTheEnd(ClapMill mill) {
        Whole whole = new Whole(mill);
        whole.askCounts(0, 15);
        whole.askText();
        whole.askHall();
        whole.askAhead();
        whole.askSeen();
        whole.undoAll();
        whole.goOn();
        whole.readTape();
        return whole.row();
    }

    private long[] row() {
        return answers.stream().mapToLong(Long::longValue).toArray();
    }

    private void add(long answer) {
        answers.add(answer);
    }

    private void askCounts(int from, int to) {
        for (int what = from; what <= to; what++) {
            add(mill.count(what));
        }
    }

    private void askText() {
        for (int i = 0; i < 6; i++) {
            add(Due.guest(mill, i, 0));
            add(Due.guest(mill, i, 1));
            add(mill.act(i, 0));
            add(mill.act(i, 1));
        }
        for (int i = 0; i < 4; i++) {
            for (int what = 0; what <= 2; what++) {
                add(mill.grain(i, what));
            }
        }
        add(mill.quiet(6, 0));
        for (int what = 0; what <= 2; what++) {
            add(mill.named(what, 1 << 25));
        }
    }

    private void askHall() {
        for (int i = 0; i < 6; i++) {
            for (int what = 2; what <= 4; what++) {
                add(Due.guest(mill, i, what));
            }
            add(mill.act(i, 2));
        }
        for (int i = 0; i < 4; i++) {
            add(mill.grain(i, 3));
        }
        for (int what = 0; what <= 2; what++) {
            add(mill.law(what, 0));
        }
    }

    private void askAhead() {
        for (int n = 1; n <= 16; n += 5) {
            add(mill.ahead(n, 0, 0));
            add(mill.ahead(n, 2, 0));
            add(mill.ahead(n, 3, 0));
        }
        add(mill.bill(4));
        add(mill.seats(0, 6));
        add(mill.tried(3, 0, 20));
        add(mill.chance(1, 20, 20));
    }

    private void askSeen() {
        for (int act = 0; act < 3; act++) {
            add(mill.moods(act));
            add(mill.ask(act, 1));
        }
    }

    private void undoAll() {
        for (int i = 0; i < 21; i++) {
            add(mill.undo());
            add(mill.count(6));
        }
        askCounts(5, 15);
        askHall();
    }

    /** Lets minutes go by, goes back to the image and lets minutes go by from there. */
    private void goOn() {
        add(mill.go(9));
        askCounts(5, 15);
        askHall();
        add(mill.back());
        askCounts(5, 15);
        askHall();
        add(mill.go(9));
        askCounts(5, 15);
        askHall();
    }

    /** How much the tape holds, by twenty bytes more, and what text that is. */
    private void readTape() {
        add(mill.fault(0));
        add(mill.fault(1));
        int fed = mill.feed(0x20202020, 0x20202020, 0x20202020, 0x20202020, 0x20202020);
        add(fed);
        add(mill.text(701));
        add(mill.text(fed < 0 ? 700 : fed));
        add(mill.fault(0));
        add(mill.fault(1));
        askCounts(0, 4);
        add(mill.act(0, 0));
        add(mill.quiet(1, 0));
    }
}
