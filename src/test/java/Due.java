import java.nio.charset.StandardCharsets;
import java.util.Arrays;

/** Compares answers with those that are due, and tells texts to a mill. */
final class Due {
    private int asked = 0;
    private int wrong = 0;

    void is(String call, long got, long want) {
        asked++;
        if (got != want) {
            wrong++;
            System.out.println(call + " answered " + got + ", due is " + want);
        }
    }

    void is(String call, boolean got, boolean want) {
        is(call, got ? 1 : 0, want ? 1 : 0);
    }

    /** Ends the test: exit code 1 if an answer was wrong or none was asked. */
    void end() {
        System.out.println(asked + " answers, " + wrong + " of them wrong");
        if (wrong != 0 || asked == 0) {
            System.exit(1);
        }
    }

    /** Feeds a text (Latin 1, blanks behind it) and has its bytes read. */
    static int tell(ClapMill mill, String text) {
        byte[] bytes = text.getBytes(StandardCharsets.ISO_8859_1);
        byte[] tape = Arrays.copyOf(bytes, (bytes.length + 19) / 20 * 20);
        Arrays.fill(tape, bytes.length, tape.length, (byte) 32);
        for (int i = 0; i < tape.length; i += 20) {
            mill.feed(word(tape, i), word(tape, i + 4), word(tape, i + 8), word(tape, i + 12), word(tape, i + 16));
        }
        return mill.text(bytes.length);
    }

    static int word(byte[] tape, int at) {
        return (tape[at] & 255) << 24 | (tape[at + 1] & 255) << 16 | (tape[at + 2] & 255) << 8 | tape[at + 3] & 255;
    }

    /** A mill that has been told a text without a fault. */
    static ClapMill mill(String text) {
        ClapMill mill = new ClapMill();
        if (tell(mill, text) < 0) {
            throw new IllegalArgumentException("fault " + mill.fault(0) + " at " + mill.fault(1) + " of " + text);
        }
        return mill;
    }

    /** What guest() answers, or 1001 for IndexOutOfBoundsException, 1002 for NoSuchElementException. */
    static int guest(ClapMill mill, int guest, int what) {
        try {
            return mill.guest(guest, what);
        } catch (IndexOutOfBoundsException e) {
            return 1001;
        } catch (java.util.NoSuchElementException e) {
            return 1002;
        }
    }
}
