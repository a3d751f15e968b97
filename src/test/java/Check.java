import java.nio.charset.StandardCharsets;
import java.util.function.IntSupplier;

/** What the tests share: a tally of answers, texts on the tape, names for exceptions. */
final class Check {
    /** Answers that stand for exceptions; no call answers so. */
    static final long NO_SUCH = Long.MIN_VALUE;
    static final long ILLEGAL = Long.MIN_VALUE + 1;
    static final long OTHER_THROWN = Long.MIN_VALUE + 2;

    private static int asked = 0;
    private static int wrong = 0;
    private static String sentence = "";
    private static int askedBefore = 0;

    private Check() {
    }

    /** What follows tests this sentence of the document; one that nothing tests is wrong itself. */
    static void says(String words) {
        endSentence();
        sentence = "'" + words + "': ";
    }

    private static void endSentence() {
        if (!sentence.isEmpty()) {
            due("tested by something", asked > askedBefore, true);
        }
        sentence = "";
        askedBefore = asked;
    }

    static void due(String what, long got, long want) {
        asked++;
        if (got != want) {
            wrong++;
            if (wrong <= 40) {
                System.out.println(sentence + what + " answered " + name(got) + ", due is " + name(want));
            }
        }
    }

    static void due(String what, boolean got, boolean want) {
        due(what, got ? 1 : 0, want ? 1 : 0);
    }

    /** Answers of several calls, in a row. */
    static void dueAll(String what, int[] got, int... want) {
        due(what + ": how many", got.length, want.length);
        for (int k = 0; k < Math.min(got.length, want.length); k++) {
            due(what + ", number " + k, got[k], want[k]);
        }
    }

    static void noSuch(String what, IntSupplier call) {
        due(what, answer(call), NO_SUCH);
    }

    static void illegal(String what, IntSupplier call) {
        due(what, answer(call), ILLEGAL);
    }

    private static String name(long answer) {
        if (answer == NO_SUCH) {
            return "throws.NoSuchElementException";
        }
        if (answer == ILLEGAL) {
            return "throws.IllegalArgumentException";
        }
        return answer == OTHER_THROWN ? "throws something else" : Long.toString(answer);
    }

    static long answer(IntSupplier call) {
        try {
            return call.getAsInt();
        } catch (java.util.NoSuchElementException e) {
            return NO_SUCH;
        } catch (IllegalArgumentException e) {
            return ILLEGAL;
        } catch (RuntimeException e) {
            e.printStackTrace(System.out);
            return OTHER_THROWN;
        }
    }

    /** Feeds a text, blanks behind it, and answers how many bytes it has itself. */
    static int tape(CascadeBus bus, String text) {
        byte[] bytes = text.getBytes(StandardCharsets.ISO_8859_1);
        for (int k = 0; k < bytes.length; k += 20) {
            bus.feed(word(bytes, k), word(bytes, k + 4), word(bytes, k + 8), word(bytes, k + 12), word(bytes, k + 16));
        }
        return bytes.length;
    }

    static int word(byte[] bytes, int at) {
        int word = 0;
        for (int k = at; k < at + 4; k++) {
            word = word << 8 | (k < bytes.length ? bytes[k] & 0xff : ' ');
        }
        return word;
    }

    static int tell(CascadeBus bus, String text) {
        int n = tape(bus, text);
        return bus.bus(n);
    }

    static CascadeBus told(String text) {
        CascadeBus bus = new CascadeBus();
        due("bus of: " + text, tell(bus, text), 0);
        return bus;
    }

    /** All that can be seen without a question about what comes, but the tape, the fault's place and STATUS. */
    static int[] picture(CascadeBus x) {
        int[] seen = new int[12 + 10 * 14 + 12 * 15 + 4 * 3];
        int at = 0;
        for (int what = 0; what < 12; what++) {
            seen[at++] = x.count(what);
        }
        for (int b = 0; b < x.count(1); b++) {
            for (int what = 0; what < 14; what++) {
                seen[at++] = x.block(b, what);
            }
        }
        for (int l = 0; l < x.count(2); l++) {
            for (int what = 0; what < 15; what++) {
                seen[at++] = x.link(l, what);
            }
        }
        for (int port = 0; port < 4; port++) {
            for (int what = 0; what < 3; what++) {
                seen[at++] = x.plant(port, what);
            }
        }
        return seen;
    }

    static void same(String what, int[] got, int[] want) {
        due(what + ": from its place on another: ", java.util.Arrays.mismatch(got, want), -1);
    }

    static int[] status(CascadeBus x) {
        return new int[] {x.count(13), x.count(14), x.count(15)};
    }

    static void end(String test) {
        endSentence();
        System.out.println(test + ": " + asked + " answers, " + wrong + " wrong");
        if (wrong != 0 || asked == 0) {
            System.exit(1);
        }
    }
}
