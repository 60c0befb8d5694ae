import java.util.ArrayList;
import java.util.List;

/** All that a mill answers, to tell whether a call has left everything as it was. */
final class Whole {
    private final ClapMill mill;
    private final List<Long> answers = new ArrayList<>();

    private Whole(ClapMill mill) {
        this.mill = mill;
    }

    /** What can be told now without changing anything; answers 0 to 15 are those of count. */
    static long[] now(ClapMill mill) {
        Whole whole = new Whole(mill);
        whole.askNow();
        return whole.row();
    }

    /**
     * What can be told now, what comes, and what only shows when calls are made: what can be undone, the image,
     * the numbers, the tape. The mill isn't what it was then.
     */
    static long[] toTheEnd(ClapMill mill) {
        Whole whole = new Whole(mill);
        whole.askNow();
        whole.askAhead();
        whole.askSeen();
        whole.undoAll();
        whole.readTape();
        return whole.row();
    }

    private long[] row() {
        return answers.stream().mapToLong(Long::longValue).toArray();
    }

    private void add(long answer) {
        answers.add(answer);
    }

    private void askNow() {
        for (int what = 0; what <= 15; what++) {
            add(mill.count(what));
        }
        for (int i = 0; i < 6; i++) {
            for (int what = 0; what <= 4; what++) {
                add(Due.guest(mill, i, what));
            }
            add(mill.act(i, 0));
            add(mill.act(i, 1));
            add(mill.act(i, 2));
            add(mill.law(0, i));
        }
        for (int i = 0; i < 4; i++) {
            for (int what = 0; what <= 3; what++) {
                add(mill.grain(i, what));
            }
        }
        add(mill.law(1, 0));
        add(mill.law(2, 0));
        add(mill.quiet(6, 0));
        add(mill.named(0, 1 << 25));
        add(mill.named(1, 1 << 25));
        add(mill.named(2, 1 << 25));
    }

    private void askAhead() {
        for (int n = 1; n <= 16; n += 5) {
            add(mill.ahead(n, 0, 0));
            add(mill.ahead(n, 2, 0));
            add(mill.ahead(n, 3, 0));
        }
        add(mill.bill(4));
        add(mill.seats(0, 6));
        add(mill.tried(3, 0, 20));
        add(mill.chance(1, 20, 20));
    }

    private void askSeen() {
        for (int act = 0; act < 3; act++) {
            add(mill.moods(act));
            add(mill.ask(act, 1));
        }
    }

    /** Undoes all, lets minutes go by, goes back to the image and lets minutes go by from there. */
    private void undoAll() {
        for (int i = 0; i < 21; i++) {
            add(mill.undo());
            add(mill.count(6));
            add(mill.count(12));
            add(Due.guest(mill, 0, 2));
        }
        add(mill.go(9));
        askNow();
        add(mill.back());
        askNow();
        add(mill.go(9));
        askNow();
    }

    /** How much the tape holds, found by asking for too much, and what text that is. */
    private void readTape() {
        int most = 700;
        int least = 0;
        while (least < most) {
            // Each feed has twenty bytes, so does the tape: text() of one more is -2, and the tape stays.
            int middle = least + (most - least) / 40 * 20 + 20;
            if (middle > most) {
                break;
            }
            int fed = mill.feed(0x20202020, 0x20202020, 0x20202020, 0x20202020, 0x20202020);
            add(fed);
            least = fed < 0 ? most : most + 1;
        }
        add(mill.text(40));
        add(mill.fault(0));
        add(mill.fault(1));
        add(mill.count(0));
        add(mill.count(1));
    }
}
