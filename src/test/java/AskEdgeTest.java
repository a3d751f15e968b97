import java.util.HashSet;
import java.util.Set;
import java.util.function.IntSupplier;

/** Each sentence that names an edge about what comes, what explains and YEARS: promises 15 to 26, the terms' part 3. */
public final class AskEdgeTest {
    private static final int NONE = CascadeBus.NONE;
    private static final int MIN = Integer.MIN_VALUE;
    private static final int MAX = Integer.MAX_VALUE;

    /** A cascade over three DEVICES and the SCHEDULER 0 apart; every KIND, and a SET within and across. */
    private static final String RICH = "devices 4;old 4;over 3;block 1 1 input 0;block 1 2 pid 80 20 auto back;"
            + "block 2 1 input 1;block 2 2 pid 60 30 man back;block 3 1 output 0 40;block 3 1 pick most;"
            + "block 3 1 pid 50 10 auto stays;block 3 1 output 1 9;link 0 1 value;link 1 3 set;link 2 3 value;"
            + "link 3 4 set;link 0 5 value;link 2 5 other;link 5 6 value;link 6 7 set;plant 0 0 90 4;plant 1 0 100 2;";

    /** The OUTPUT 0 comes up by 1 a CYCLE; the INPUT 1 and the PID 2, which moves nothing, see it a CYCLE later. */
    private static final String RAMP = "block 0 1 output 0 1;block 0 1 input 0;block 0 1 pid 0 0 man back;"
            + "link 1 2 value;plant 0 0 100 1;";

    private AskEdgeTest() {
    }

    public static void main(String[] args) {
        then();
        thenByTwin();
        first();
        jump();
        jumpThatGrows();
        lost();
        lostInBetween();
        lostByTwin();
        toRide();
        toRideOthers();
        toTune();
        toTuneNext();
        slack();
        slackMost();
        note();
        fits();
        fitsOfWhatCanBe();
        look();
        lookBehindEight();
        forget();
        years();
        yearsByTwin();
        draws();
        fullBus();
        Check.end("AskEdgeTest");
    }

    private static void due(String what, long got, long want) {
        Check.due(what, got, want);
    }

    /** A question changes nothing, refused or not. */
    private static void asks(String what, CascadeBus x, IntSupplier call, long want) {
        int[] before = Check.picture(x);
        int[] status = Check.status(x);
        due(what, Check.answer(call), want);
        Check.same(what + ", nothing changes", Check.picture(x), before);
        Check.dueAll(what + ", no STATUS", Check.status(x), status);
    }

    private static CascadeBus ramp() {
        CascadeBus x = Check.told(RAMP);
        x.cycles(1);
        x.hand(0, 1000);
        return x;
    }

    /** Some way into a run; the same each time. */
    private static CascadeBus rich() {
        CascadeBus x = Check.told(RICH);
        x.cycles(1);
        x.hand(1, 300);
        x.cycles(9);
        x.target(7, 2);
        x.broken(3, true);
        return x;
    }

    private static void then() {
        Check.says("THEN, behind so many (0 to 60), of a BLOCK: OUT, ACTUAL, SETPOINT, whether GOOD, LIMIT, TARGET.");
        CascadeBus x = ramp();
        for (int k = 0; k <= 60; k++) {
            due("OUT behind " + k, x.then(0, k, 0), k);
            due("of the INPUT", x.then(1, k, 0), Math.max(0, k - 1));
        }
        asks("now", x, () -> x.then(0, 0, 4), 1);
        asks("behind 1", x, () -> x.then(0, 1, 4), 2);
        asks("SETPOINT", x, () -> x.then(0, 60, 2), 1000);
        x.target(0, 0);
        Check.dueAll("now, by what", new int[] {x.then(0, 0, 0), x.then(0, 0, 1), x.then(0, 0, 2), x.then(0, 0, 3),
            x.then(0, 0, 4), x.then(0, 0, 5)}, 0, 2, 1000, 1, 1, 0);
        Check.dueAll("behind 1, by what", new int[] {x.then(0, 1, 0), x.then(0, 1, 1), x.then(0, 1, 2), x.then(0, 1, 3),
            x.then(0, 1, 4), x.then(0, 1, 5)}, 0, 0, 1000, 0, 2, 0);
        Check.says("NoSuchElementException: also another what. IllegalArgumentException (behind that): not 0 to 60.");
        for (int cycles : new int[] {MIN, -1, 61, MAX}) {
            asks("cycles " + cycles, x, () -> x.then(0, cycles, 5), Check.ILLEGAL);
            asks("no such BLOCK, and cycles", x, () -> x.then(3, cycles, 0), Check.NO_SUCH);
            asks("another what, and cycles", x, () -> x.then(0, cycles, 6), Check.NO_SUCH);
        }
        for (int wrong : new int[] {MIN, -1, 3, 10, MAX}) {
            asks("block " + wrong, x, () -> x.then(wrong, 1, 0), Check.NO_SUCH);
        }
        for (int wrong : new int[] {MIN, -1, 6, MAX}) {
            asks("what " + wrong, x, () -> x.then(0, 1, wrong), Check.NO_SUCH);
        }
    }

    private static void thenByTwin() {
        Check.says("(If only CYCLES go by:)");
        CascadeBus x = rich();
        CascadeBus twin = rich();
        int[] cells = {8, 6, 7, 10, 11, 5};
        int[] firsts = new int[8];
        int[] jumps = new int[8];
        int[] outs = new int[8];
        int[] actuals = new int[8];
        for (int b = 0; b < 8; b++) {
            firsts[b] = NONE;
            outs[b] = twin.block(b, 8);
            actuals[b] = twin.block(b, 6);
        }
        for (int k = 0; k <= 60; k++) {
            for (int b = 0; b < 8; b++) {
                for (int what = 0; what < 6; what++) {
                    due("block " + b + " behind " + k, x.then(b, k, what), twin.block(b, cells[what]));
                }
                jumps[b] = Math.max(jumps[b], Math.abs(twin.block(b, 8) - outs[b]));
                outs[b] = twin.block(b, 8);
                if (k > 0) {
                    due("JUMP of " + b + " within " + k, x.jump(b, k), jumps[b]);
                }
                if (firsts[b] == NONE && twin.block(b, 6) != actuals[b]) {
                    firsts[b] = k;
                }
            }
            twin.cycles(1);
        }
        for (int b = 0; b < 8; b++) {
            due("FIRST of " + b, x.first(b), firsts[b]);
        }
    }

    private static void first() {
        Check.says("FIRST: behind how many CYCLES (1 to 60) its ACTUAL is another one than now; none.");
        for (int old = 1; old <= 9; old++) {
            CascadeBus x = Check.told("devices 3;old " + old + ";block 1 1 input 0;block 2 1 pid 0 0 man back;"
                    + "link 0 1 value;");
            x.cycles(1);
            asks("none", x, () -> x.first(1), NONE);
            x.power(1, false);
            asks("too old", x, () -> x.first(1), old + 1);
            asks("what is OFF rests", x, () -> x.first(0), NONE);
            x.cycles(old);
            asks("behind the next", x, () -> x.first(1), 1);
            x.cycles(1);
            asks("another one than now: none more", x, () -> x.first(1), NONE);
        }
        CascadeBus y = Check.told("block 0 1 input 0;block 0 1 pick most;");
        asks("at first ACTUAL is 1", y, () -> y.first(0), 1);
        y.cycles(1);
        y.target(1, 0);
        asks("by TARGET", y, () -> y.first(1), 1);
        CascadeBus between = Check.told("devices 3;over 9;old 1;block 1 1 input 0;block 2 1 pid 0 0 man back;"
                + "link 0 1 value;");
        between.cycles(1);
        between.power(0, false);
        asks("it comes back behind 10, but this is first", between, () -> between.first(1), 2);
        Check.says("FIRST; NONE: none.");
        asks("none", between, () -> between.first(0), NONE);
        for (int wrong : new int[] {MIN, -1, 2, 10, MAX}) {
            asks("no such BLOCK", between, () -> between.first(wrong), Check.NO_SUCH);
        }
    }

    private static void jump() {
        Check.says("JUMP: the most by which its OUT is another one from one CYCLE to the next,"
                + " within so many (1 to 60).");
        CascadeBus x = Check.told("block 0 1 output 0 30;");
        x.hand(0, 100);
        asks("down: 30", x, () -> x.jump(0, 1), 30);
        asks("30, 30, 30, 10: not together, not the last", x, () -> x.jump(0, 60), 30);
        x.cycles(3);
        asks("10", x, () -> x.jump(0, 60), 10);
        x.cycles(1);
        asks("none", x, () -> x.jump(0, 60), 0);
        x.hand(0, 1000);
        asks("up: 30", x, () -> x.jump(0, 60), 30);
        Check.says("JUMP. IllegalArgumentException (behind NoSuchElementException): cycles.");
        for (int cycles : new int[] {MIN, -1, 0, 61, MAX}) {
            asks("cycles " + cycles, x, () -> x.jump(0, cycles), Check.ILLEGAL);
            asks("no such BLOCK, and cycles", x, () -> x.jump(1, cycles), Check.NO_SUCH);
        }
        for (int wrong : new int[] {MIN, -1, 1, MAX}) {
            asks("no such BLOCK", x, () -> x.jump(wrong, 1), Check.NO_SUCH);
        }
    }

    private static void jumpThatGrows() {
        Check.says("within so many (1 to 60)");
        CascadeBus x = Check.told("block 0 1 output 0 1;block 0 1 input 0;block 0 1 pid 0 50 man back;link 1 2 value;"
                + "plant 0 0 100 1;");
        x.hand(0, 1000);
        x.cycles(1);
        x.hand(2, 1000);
        // VALUE goes down by 1 a CYCLE, so E is k behind k, and OUT is more by half of it
        for (int k = 1; k <= 60; k++) {
            due("within " + k, x.jump(2, k), k / 2);
        }
    }

    private static void lost() {
        Check.says("LOST by a DEVICE, within so many CYCLES (1 to 30): BLOCKS that, were it OFF from now on, have another"
                + " ACTUAL behind any of these than as it is.");
        for (int old = 1; old <= 9; old++) {
            CascadeBus x = Check.told("devices 3;old " + old + ";block 1 1 input 0;block 2 1 pid 0 0 man back;"
                    + "block 2 1 pick most;link 0 1 value;link 0 2 value;");
            int late = old + 1;
            x.cycles(1);
            asks("not too old yet", x, () -> x.lost(1, late - 1), 0);
            asks("too old", x, () -> x.lost(1, late), 2);
            asks("within 30", x, () -> x.lost(1, 30), 2);
            asks("its own BLOCKS rest", x, () -> x.lost(2, 30), 0);
            asks("within 1", x, () -> x.lost(1, 1), 0);
            x.power(1, false);
            asks("OFF already: as it is", x, () -> x.lost(1, 30), 0);
        }
        CascadeBus y = Check.told("block 0 1 input 0;block 1 1 input 0;");
        asks("at first it would come to 2", y, () -> y.lost(0, 1), 1);
        asks("at first it would come to 2", y, () -> y.lost(1, 1), 2);
        y.cycles(1);
        y.target(0, 1);
        asks("as it is, ACTUAL changes; were it OFF, not", y, () -> y.lost(0, 1), 1);
        asks("another one's changes all the same", y, () -> y.lost(1, 30), 0);
        Check.says("LOST (bits). NoSuchElementException: no such DEVICE. IllegalArgumentException (behind that): cycles.");
        for (int cycles : new int[] {MIN, -1, 0, 31, MAX}) {
            asks("cycles " + cycles, y, () -> y.lost(0, cycles), Check.ILLEGAL);
            asks("no such DEVICE, and cycles", y, () -> y.lost(2, cycles), Check.NO_SUCH);
        }
        for (int wrong : new int[] {MIN, -1, 2, 4, 5, MAX}) {
            asks("no such DEVICE", y, () -> y.lost(wrong, 1), Check.NO_SUCH);
        }
        CascadeBus full = Check.told("block 0 1 input 0;".repeat(10));
        asks("all ten", full, () -> full.lost(0, 30), 1023);
    }

    private static void lostInBetween() {
        Check.says("have another ACTUAL behind any of these than as it is");
        CascadeBus x = Check.told("devices 3;over 4;old 2;block 1 1 input 0;block 2 1 pid 0 0 man back;link 0 1 value;");
        x.cycles(1);
        // without SCHEDULER for 4: BAD behind 3 and 4, GOOD again behind 5
        asks("behind 2", x, () -> x.lost(0, 2), 0);
        asks("behind 3", x, () -> x.lost(0, 3), 2);
        asks("any of these, though it is back", x, () -> x.lost(0, 30), 2);
        due("it is back, in truth", back(x), 2);
    }

    private static int back(CascadeBus x) {
        x.power(0, false);
        int actual = x.then(1, 5, 1);
        x.undo();
        return actual;
    }

    private static void lostByTwin() {
        Check.says("were it OFF from now on");
        for (int device = 0; device < 4; device++) {
            CascadeBus x = rich();
            CascadeBus as = rich();
            CascadeBus off = rich();
            off.power(device, false);
            int bits = 0;
            for (int k = 1; k <= 30; k++) {
                as.cycles(1);
                off.cycles(1);
                for (int b = 0; b < 8; b++) {
                    bits |= as.block(b, 6) != off.block(b, 6) ? 1 << b : 0;
                }
                due("LOST by " + device + " within " + k, x.lost(device, k), bits);
            }
        }
    }

    private static void toRide() {
        Check.says("TO RIDE: the least OLD (1 to 9) by which, were the SCHEDULER OFF from now on, no BLOCK of another"
                + " DEVICE has another ACTUAL behind any of the next 20 CYCLES than as it is, by that OLD, too;"
                + " none (also without SCHEDULER).");
        for (int over = 0; over <= 9; over++) {
            for (int old = 1; old <= 9; old += 4) {
                CascadeBus x = Check.told("devices 3;block 1 1 input 0;block 2 1 pid 0 0 man back;link 0 1 value;over "
                        + over + ";old " + old + ";");
                x.cycles(1);
                int least = Math.max(1, over);
                asks("OVER " + over, x, () -> x.toRide(), least);
                x.power(0, false);
                asks("without SCHEDULER", x, () -> x.toRide(), NONE);
                x.cycles(over + 1);
                asks("the next one has the INPUT: none", x, () -> x.toRide(), NONE);
            }
        }
        Check.says("TO RIDE; NONE: none.");
        asks("without BLOCKS", new CascadeBus(), () -> new CascadeBus().toRide(), 1);
        CascadeBus y = Check.told("over 0;block 0 1 input 0;block 1 1 pid 0 0 man back;link 0 1 value;old 9;");
        y.cycles(1);
        asks("VALUE from the SCHEDULER's DEVICE never comes again", y, () -> y.toRide(), NONE);
    }

    private static void toRideOthers() {
        Check.says("no BLOCK of another DEVICE has another ACTUAL");
        CascadeBus own = Check.told("block 0 1 input 0;block 0 1 pid 0 0 man back;");
        due("its own would change", own.lost(0, 1), 1);
        asks("and don't count", own, () -> own.toRide(), 1);
        for (int other = 0; other <= 1; other++) {
            // The PID is the first, then the last BLOCK; OVER is 5.
            CascadeBus each = Check.told("devices 3;over 5;" + (other == 0
                    ? "block 2 1 pid 0 0 man back;block 1 1 input 0;link 1 0 value;"
                    : "block 1 1 input 0;block 2 1 pid 0 0 man back;link 0 1 value;"));
            each.cycles(1);
            asks("any other one counts", each, () -> each.toRide(), 5);
        }
        Check.says("than as it is, by that OLD, too");
        CascadeBus off = Check.told("devices 4;old 9;over 9;block 1 1 input 0;block 2 1 pid 0 0 man back;link 0 1 value;");
        off.cycles(1);
        off.power(1, false);
        off.cycles(1);
        asks("by 1 it falls without the loss, too", off, () -> off.toRide(), 1);
        off.power(1, true);
        asks("AGE is 1 already, and 9 CYCLES come", off, () -> off.toRide(), NONE);
        off.cycles(1);
        asks("from AGE 0 9 are enough", off, () -> off.toRide(), 9);
    }

    private static void toTune() {
        Check.says("TO TUNE: the greatest GAIN (0 to 300) of a PID by which its VALUE (as it came) isn't above its SETPOINT"
                + " by more than so much (0 to 1000) behind any of the next so many CYCLES (1 to 30); none.");
        CascadeBus x = ramp();
        for (int cycles = 1; cycles <= 30; cycles++) {
            int many = cycles;
            due("not more", x.toTune(2, many - 1, many), 300);
            if (many > 1) {
                due("1 more, behind the last one", x.toTune(2, many - 2, many), NONE);
            }
        }
        asks("so much 1000", x, () -> x.toTune(2, 1000, 30), 300);
        x.broken(0, true);
        asks("VALUE as it came, BAD or not", x, () -> x.toTune(2, 28, 30), NONE);
        asks("VALUE as it came, BAD or not", x, () -> x.toTune(2, 29, 30), 300);
        Check.says("TO TUNE; NONE: none. NoSuchElementException: also no PID. IllegalArgumentException (behind that):"
                + " above, cycles.");
        for (int above : new int[] {MIN, -1, 1001, MAX}) {
            asks("above " + above, x, () -> x.toTune(2, above, 1), Check.ILLEGAL);
            asks("no PID, and above", x, () -> x.toTune(1, above, 1), Check.NO_SUCH);
            asks("no such BLOCK, and above", x, () -> x.toTune(3, above, 1), Check.NO_SUCH);
        }
        for (int cycles : new int[] {MIN, -1, 0, 31, MAX}) {
            asks("cycles " + cycles, x, () -> x.toTune(2, 0, cycles), Check.ILLEGAL);
            asks("no PID, and cycles", x, () -> x.toTune(0, 0, cycles), Check.NO_SUCH);
            asks("no such BLOCK, and cycles", x, () -> x.toTune(-1, 0, cycles), Check.NO_SUCH);
        }
        CascadeBus kinds = Check.told("block 0 1 input 0;block 0 1 output 0 1;block 0 1 pick most;"
                + "block 0 1 pid 9 9 man back;");
        for (int b = 0; b < 3; b++) {
            int block = b;
            asks("no PID", kinds, () -> kinds.toTune(block, 0, 1), Check.NO_SUCH);
        }
        asks("a PID without VALUE", kinds, () -> kinds.toTune(3, 0, 30), 300);
        for (int wrong : new int[] {MIN, -1, 4, MAX}) {
            asks("no such BLOCK", kinds, () -> kinds.toTune(wrong, 0, 1), Check.NO_SUCH);
        }
    }

    private static void toTuneNext() {
        Check.says("the greatest GAIN (0 to 300)");
        CascadeBus x = Check.told("block 0 1 input 0;block 0 1 pid 7 0 man back;block 0 1 output 0 1000;"
                + "link 0 1 value;link 1 2 set;plant 0 0 100 1;");
        x.cycles(2);
        x.hand(1, 100);
        // behind 2 VALUE is GAIN of 100 parts of 100
        asks("300", x, () -> x.toTune(1, 200, 2), 300);
        asks("299", x, () -> x.toTune(1, 199, 2), 299);
        asks("100", x, () -> x.toTune(1, 0, 2), 100);
        asks("its own GAIN stays", x, () -> x.then(1, 1, 0), 7);
        CascadeBus at = Check.told("block 0 1 input 0;block 0 1 pid 50 0 man back;block 0 1 output 0 1000;"
                + "link 0 1 value;link 1 2 set;plant 0 0 100 1;");
        at.target(2, 1);
        at.hand(2, 100);
        at.cycles(2);
        at.target(2, 3);
        at.cycles(1);
        at.hand(1, 100);
        // E was -100 and is 0: by any GAIN OUT comes up by it, from 100 on
        due("VALUE is at SETPOINT", at.link(0, 4), 100);
        asks("0 alone", at, () -> at.toTune(1, 0, 2), 0);
        asks("1", at, () -> at.toTune(1, 1, 2), 1);
        asks("2", at, () -> at.toTune(1, 2, 2), 2);
        CascadeBus hard = Check.told("block 0 1 input 0;block 0 1 pid 0 0 man back;block 0 1 output 0 1000;"
                + "link 0 1 value;link 1 2 set;plant 0 0 100 10;");
        hard.target(2, 1);
        hard.hand(2, 1000);
        hard.cycles(1);
        hard.hand(1, 300);
        hard.cycles(1);
        hard.target(2, 3);
        hard.cycles(1);
        due("VALUE comes up", hard.link(0, 4), 271);
        // 343, 387, 413, 429, 438, 444, 447, 449, 450, 451 and no more by 300; by 0 it comes up to 1000
        asks("151 above by 300", hard, () -> hard.toTune(1, 151, 30), 300);
        asks("150: by none", hard, () -> hard.toTune(1, 150, 30), NONE);
        asks("150 behind nine", hard, () -> hard.toTune(1, 150, 9), 300);
        asks("behind ten not", hard, () -> hard.toTune(1, 150, 10), NONE);
    }

    private static void slack() {
        Check.says("SLACK of a BLOCK: the most (0 to 50) by which, were its TIME so much more, LENGTH would be as it is.");
        String six = "block 0 9 input 0;".repeat(6);
        for (int time = 1; time <= 9; time++) {
            CascadeBus x = Check.told(six + "block 1 " + time + " input 0;");
            int most = Math.min(50, 54 - time);
            asks("54 less " + time, x, () -> x.slack(6), most);
            asks("of the longest DEVICE", x, () -> x.slack(0), 0);
        }
        CascadeBus one = Check.told("block 0 1 input 0;");
        asks("of the only one", one, () -> one.slack(0), 0);
        asks("TIME stays", one, () -> one.block(0, 2), 1);
        for (int wrong : new int[] {MIN, -1, 1, 10, MAX}) {
            asks("no such BLOCK", one, () -> one.slack(wrong), Check.NO_SUCH);
        }
        CascadeBus empty = new CascadeBus();
        asks("of none", empty, () -> empty.slack(0), Check.NO_SUCH);
    }

    private static void slackMost() {
        Check.says("the most (0 to 50)");
        CascadeBus x = Check.told("devices 4;block 0 1 input 0;block 1 1 input 0;block 2 1 pick most;"
                + "block 3 5 pick most;link 0 2 value;link 1 3 value;");
        due("LENGTH", x.count(7), 8);
        // by 1 to 4 more the other LINK has SLOT 1, and LENGTH is 7; by 5 it is 8 again
        asks("as it is again", x, () -> x.slack(0), 5);
        CascadeBus y = Check.told("block 0 1 pid 1 1 man back;block 1 1 output 0 1;block 0 9 input 0;link 0 1 set;");
        // 0 .. 1, SLOT 1, 2 .. 3, the way BACK's 3; the INPUT 1 .. 10
        due("LENGTH", y.count(7), 10);
        asks("with its way BACK", y, () -> y.slack(1), 6);
        asks("its DEVICE is full", y, () -> y.slack(0), 0);
        for (int more = 0; more <= 8; more++) {
            CascadeBus z = Check.told("block 0 " + (1 + more) + " input 0;block 1 1 input 0;");
            asks("by " + more, z, () -> z.slack(1), z.count(7) - 1);
        }
    }

    private static void note() {
        Check.says("NOTED: how much is. NONE (STATUS 2): there are 6, no such BLOCK, cycles not 1 to 20, mode not 0 to 3.");
        CascadeBus x = Check.told(RICH);
        int[][] wrong = {{-1, 1, 1}, {8, 1, 1}, {MIN, 1, 1}, {MAX, 1, 1}, {0, 0, 1}, {0, -1, 1}, {0, 21, 1}, {0, MIN, 1},
            {0, MAX, 1}, {0, 1, -1}, {0, 1, 4}, {0, 1, MIN}, {0, 1, MAX}, {8, 0, 4}};
        int refused = 0;
        for (int[] w : wrong) {
            int[] before = Check.picture(x);
            due("refused", x.note(w[0], w[1], w[2]), NONE);
            refused++;
            Check.same("nothing changes", Check.picture(x), before);
            Check.dueAll("STATUS 2", Check.status(x), 0, 0, refused);
        }
        int[][] right = {{0, 1, 0}, {7, 20, 3}, {0, 20, 0}, {7, 1, 3}, {3, 10, 1}, {3, 10, 1}};
        for (int k = 0; k < 6; k++) {
            due("how much is", x.note(right[k][0], right[k][1], right[k][2]), k + 1);
            due("NOTED", x.count(11), k + 1);
        }
        for (int[] r : right) {
            due("there are 6", x.note(r[0], r[1], r[2]), NONE);
            refused++;
            Check.dueAll("STATUS 2", Check.status(x), 0, 0, refused);
        }
        due("6 still", x.count(11), 6);
        due("no ACT", x.count(10), 0);
        Check.says("NOTED (at most 6): that ACTUAL of a BLOCK was so much behind so many CYCLES (1 to 20).");
        x.forget();
        due("again", x.note(0, 1, 0), 1);
        CascadeBus empty = new CascadeBus();
        due("no BLOCKS", empty.note(0, 1, 1), NONE);
    }

    private static CascadeBus causes() {
        CascadeBus x = Check.told("devices 5;old 3;block 1 1 input 0;block 2 1 pid 0 0 man back;block 3 1 output 0 9;"
                + "block 1 1 input 3;link 0 1 value;link 1 2 set;");
        x.cycles(3);
        return x;
    }

    private static void fits() {
        Check.says("FITS: those by which all NOTED is so.");
        CascadeBus x = causes();
        int all = 1 | 62 | 64 | 512;
        asks("nothing NOTED: all CAUSES", x, () -> x.fits(), all);
        x.note(1, 1, 1);
        asks("VALUE BAD at once: SENSOR 0", x, () -> x.fits(), 64);
        x.forget();
        x.note(1, 3, 2);
        asks("behind 3 it isn't too old", x, () -> x.fits(), all - 64);
        x.note(1, 4, 1);
        asks("behind 4 it is: DEVICE 1", x, () -> x.fits(), 4);
        x.note(2, 20, 3);
        asks("all three", x, () -> x.fits(), 4);
        x.note(2, 20, 2);
        asks("what can't be so together: none", x, () -> x.fits(), 0);
        x.forget();
        x.note(2, 4, 2);
        asks("the OUTPUT's SET is too old: DEVICE 2", x, () -> x.fits(), 8);
        x.forget();
        x.note(0, 20, 2);
        x.note(1, 20, 2);
        x.note(2, 20, 3);
        x.note(3, 20, 2);
        asks("what changes no ACTUAL", x, () -> x.fits(), 1 | 2 | 16 | 32 | 512);
        x.forget();
        x.note(0, 1, 3);
        asks("what an INPUT never is", x, () -> x.fits(), 0);
        x.forget();
        x.note(0, 1, 1);
        x.target(0, 1);
        asks("by the TARGET, unless it is OFF", x, () -> x.fits(), all - 4);
    }

    private static void fitsOfWhatCanBe() {
        Check.says("CAUSES: nothing (bit 0); DEVICE d going OFF now (bit 1 and d; that are ON); SENSOR s BROKEN now"
                + " (bit 6 and s; that are sound, and of which an INPUT is).");
        for (int many = 1; many <= 5; many++) {
            CascadeBus x = Check.told("devices " + many + ";");
            int devices = (1 << many) - 1 << 1;
            asks("DEVICES", x, () -> x.fits(), 1 | devices);
            for (int d = 0; d < many; d++) {
                int left = devices & ~(1 << 1 + d);
                x.power(d, false);
                asks("OFF already: no CAUSE", x, () -> x.fits(), 1 | left);
                x.power(d, true);
            }
        }
        for (int s = 0; s < 4; s++) {
            CascadeBus x = Check.told("devices 1;block 0 1 input " + s + ";block 0 1 output " + (3 - s) + " 1;plant "
                    + (s + 1) % 4 + " 0 1 1;");
            int bit = 1 << 6 + s;
            asks("SENSOR of an INPUT alone", x, () -> x.fits(), 3 | bit);
            x.broken(s, true);
            asks("BROKEN already: no CAUSE", x, () -> x.fits(), 3);
        }
        CascadeBus none = Check.told("");
        none.power(0, false);
        none.power(1, false);
        asks("nothing", none, () -> none.fits(), 1);
    }

    private static void look() {
        Check.says("LOOK NEXT: the BLOCK whose ACTUAL behind 8 CYCLES is by FITS most unlike (of like ones the least):"
                + " how many unlike; none without any.");
        CascadeBus x = causes();
        asks("1 or 2, and 2 or 3: the least", x, () -> x.look(0), 1);
        asks("two", x, () -> x.look(1), 2);
        x.note(1, 8, 2);
        asks("2 or 3 of the OUTPUT", x, () -> x.look(0), 2);
        asks("two", x, () -> x.look(1), 2);
        x.note(2, 8, 3);
        asks("all alike: the least", x, () -> x.look(0), 0);
        asks("one", x, () -> x.look(1), 1);
        x.note(2, 8, 2);
        asks("without any", x, () -> x.look(0), NONE);
        asks("without any", x, () -> x.look(1), 0);
        CascadeBus one = Check.told("devices 1;block 0 1 input 0;block 0 1 pid 0 0 man back;link 0 1 value;");
        one.note(0, 1, 2);
        one.note(1, 1, 2);
        asks("nothing alone fits", one, () -> one.fits(), 1);
        asks("by it alone", one, () -> one.look(0), 0);
        asks("one", one, () -> one.look(1), 1);
        one.forget();
        one.note(0, 1, 2);
        asks("nothing, or SENSOR 0", one, () -> one.fits(), 1 | 64);
        asks("2 or 1", one, () -> one.look(0), 1);
        asks("two", one, () -> one.look(1), 2);
        CascadeBus three = Check.told("devices 4;block 1 1 input 0;block 1 1 pid 0 0 man back;block 2 1 input 1;"
                + "block 2 1 pid 0 0 auto back;link 0 1 value;link 2 3 value;link 1 3 set;");
        three.cycles(3);
        due("CASCADE", three.block(3, 6), 3);
        asks("more unlike than a lesser one", three, () -> three.look(0), 3);
        asks("3, 2 or 1", three, () -> three.look(1), 3);
        Check.says("LOOK NEXT: which (what 0; NONE), how many unlike (1; 0: none). NoSuchElementException: another what.");
        for (int wrong : new int[] {MIN, -1, 2, MAX}) {
            asks("what " + wrong, x, () -> x.look(wrong), Check.NO_SUCH);
        }
        CascadeBus empty = new CascadeBus();
        asks("no BLOCKS", empty, () -> empty.look(0), NONE);
        asks("no BLOCKS", empty, () -> empty.look(1), 0);
    }

    private static void lookBehindEight() {
        Check.says("whose ACTUAL behind 8 CYCLES");
        for (int old = 5; old <= 9; old++) {
            CascadeBus x = Check.told("devices 3;old " + old + ";block 2 1 input 0;block 1 1 pid 0 0 man back;"
                    + "block 0 1 input 1;link 2 1 value;");
            x.cycles(1);
            x.broken(1, true);
            x.broken(1, false);
            x.broken(0, true);
            x.note(1, 1, 2);
            boolean seen = old + 1 <= 8;
            asks("too old behind " + (old + 1), x, () -> x.look(0), seen ? 1 : 0);
            asks("how many", x, () -> x.look(1), seen ? 2 : 1);
        }
        CascadeBus back = Check.told("devices 3;over 5;old 2;block 1 1 input 0;block 2 1 pid 0 0 man back;link 0 1 value;");
        back.cycles(1);
        back.broken(0, true);
        back.broken(0, false);
        back.note(1, 1, 2);
        back.note(1, 20, 2);
        asks("1 behind 3 to 5, but 2 again behind 8", back, () -> back.look(1), 1);
    }

    private static void forget() {
        Check.says("All that is NOTED is forgotten.");
        CascadeBus x = causes();
        int before = x.fits();
        x.forget();
        due("nothing to forget", x.count(11), 0);
        for (int k = 0; k < 6; k++) {
            x.note(0, 1, 0);
        }
        due("none fits", x.fits(), 0);
        int[] status = Check.status(x);
        x.forget();
        due("NOTED", x.count(11), 0);
        due("all CAUSES again", x.fits(), before);
        due("ACTS stay", x.count(10), 1);
        Check.dueAll("STATUS stays", Check.status(x), status);
        due("room again", x.note(1, 2, 2), 1);
    }

    private static void years() {
        Check.says("YEARS: OUT (what 0), DEVICES (1), SCHEDULERS (2). NoSuchElementException: another what."
                + " IllegalArgumentException (behind that): n.");
        CascadeBus x = rich();
        int sum = 0;
        for (int b = 0; b < 8; b++) {
            sum += x.block(b, 8);
        }
        int outs = sum;
        asks("0 times", x, () -> x.years(77, 0, 0), outs);
        asks("0 times", x, () -> x.years(77, 0, 1), 15);
        asks("0 times", x, () -> x.years(77, 0, 2), 0);
        for (int n : new int[] {MIN, -1, 31, MAX}) {
            asks("n " + n, x, () -> x.years(1, n, 0), Check.ILLEGAL);
            asks("another what, and n", x, () -> x.years(1, n, 3), Check.NO_SUCH);
            asks("another what, and n", x, () -> x.years(1, n, -1), Check.NO_SUCH);
        }
        for (int wrong : new int[] {MIN, -1, 3, MAX}) {
            asks("what " + wrong, x, () -> x.years(1, 30, wrong), Check.NO_SUCH);
        }
        CascadeBus empty = new CascadeBus();
        asks("OUT of no BLOCKS", empty, () -> empty.years(9, 30, 0), 0);
    }

    private static int seed;

    private static int draw(int n) {
        long wide = (long) seed * 1103515245L + 12345L;
        seed = (int) wide;
        return (int) (wide >> 16 & 0x7fffL) % n;
    }

    /** Does on the bus itself what YEARS would: OUT of all together, DEVICES ON, SCHEDULERS that came. */
    private static int[] play(CascadeBus x, int from, int n) {
        seed = from;
        int came = 0;
        int blocks = x.count(1);
        for (int k = 0; k < n; k++) {
            int act = draw(6);
            if (act <= 1) {
                for (int c = draw(5) + 1; c > 0; c--) {
                    boolean none = x.count(4) == NONE;
                    x.cycles(1);
                    came += none && x.count(4) != NONE ? 1 : 0;
                }
            } else if (act == 2 && blocks > 0) {
                int block = draw(blocks);
                x.target(block, draw(4));
            } else if (act == 3) {
                int device = draw(x.count(0));
                x.power(device, (x.count(6) >> device & 1) == 0);
            } else if (act == 4) {
                int sensor = draw(4);
                x.broken(sensor, (x.count(9) >> sensor & 1) == 0);
            } else if (act == 5 && blocks > 0) {
                int block = draw(blocks);
                x.hand(block, draw(1001));
            }
        }
        int sum = 0;
        for (int b = 0; b < blocks; b++) {
            sum += x.block(b, 8);
        }
        return new int[] {sum, x.count(6), came};
    }

    private static void yearsByTwin() {
        Check.says("YEARS by a seed: n times (0 to 30)");
        Set<Integer> seen = new HashSet<>();
        CascadeBus x = rich();
        for (int n = 0; n <= 30; n++) {
            for (int from : new int[] {0, 1, -1, 12345, MIN, MAX, n * 7919, -n * 104729, 1 << n}) {
                int[] due = play(rich(), from, n);
                Check.dueAll("seed " + from + ", " + n + " times",
                        new int[] {x.years(from, n, 0), x.years(from, n, 1), x.years(from, n, 2)}, due);
                seen.add(due[2]);
            }
        }
        Check.says("OUT of all BLOCKS together then; DEVICES ON (bits); how often there came a SCHEDULER behind none.");
        due("none came, one, or more", seen.size() >= 3 ? 1 : 0, 1);
        Check.same("nothing changes", Check.picture(x), Check.picture(rich()));
        Check.dueAll("no STATUS", Check.status(x), 0, 0, 0);
        Check.says("(without BLOCKS nothing is drawn behind 2, 5)");
        for (int many = 1; many <= 5; many++) {
            CascadeBus empty = Check.told("devices " + many + ";over 1;");
            for (int from = 0; from < 40; from++) {
                int[] due = play(Check.told("devices " + many + ";over 1;"), from * 31337, 30);
                Check.dueAll("seed " + from * 31337, new int[] {empty.years(from * 31337, 30, 0),
                    empty.years(from * 31337, 30, 1), empty.years(from * 31337, 30, 2)}, due);
            }
        }
    }

    private static void fullBus() {
        Check.says("BLOCKS 0, 1 .. (at most 10)");
        String full = "devices 3;old 3;over 0;block 1 1 pid 0 0 man back;block 2 1 output 0 9;"
                + "block 1 1 pick most;".repeat(7) + "block 2 1 pid 0 0 man back;link 0 1 set;link 2 9 value;"
                + "link 2 3 value;link 2 3 other;link 2 4 value;link 2 4 other;link 2 5 value;link 2 5 other;"
                + "link 2 6 value;link 2 6 other;link 2 7 value;link 2 7 other;";
        CascadeBus x = Check.told(full);
        x.target(2, 1);
        x.hand(2, 1000);
        x.cycles(1);
        x.target(1, 1);
        x.cycles(1);
        due("ACK of the first LINK", x.link(0, 7), 1);
        asks("LOST: bits of BLOCKS alone", x, () -> x.lost(1, 30), 1 << 9);
        asks("TO RIDE", x, () -> x.toRide(), 1);
        asks("LOOK NEXT: the last BLOCK", x, () -> x.look(0), 9);
        asks("two", x, () -> x.look(1), 2);
        asks("SLACK of the last BLOCK", x, () -> x.slack(9), lastSlack(x));
        asks("OUT of all ten", x, () -> x.years(3, 0, 0), 6 * 1000);
        x.note(9, 4, 1);
        asks("FITS", x, () -> x.fits(), 4);
        Check.says("a DRAW of 6: 0, 1 CYCLES, a DRAW of 5 and 1; 2 TARGET of a DRAW of BLOCKS, a DRAW of 4, if it can be;"
                + " 3 a DRAW of DEVICES goes OFF if it is ON, else ON; 4 a DRAW of 4: that SENSOR is BROKEN, or sound"
                + " again; 5 by HAND: a DRAW of BLOCKS, a DRAW of 1001, if it can be");
        for (String text : new String[] {full, "block 0 1 pick most;", "devices 1;block 0 1 output 0 9;",
            "over 0;block 0 1 input 3;block 1 1 pid 100 10 auto back;link 0 1 value;plant 3 0 9 9;"}) {
            CascadeBus y = Check.told(text);
            for (int from = 1; from <= 60; from++) {
                int[] due = play(Check.told(text), from * 65537, 30);
                Check.dueAll("seed " + from * 65537, new int[] {y.years(from * 65537, 30, 0),
                    y.years(from * 65537, 30, 1), y.years(from * 65537, 30, 2)}, due);
            }
        }
    }

    /** Nothing comes behind the last BLOCK, so it may last until LENGTH. */
    private static int lastSlack(CascadeBus x) {
        return x.count(7) - x.block(9, 4);
    }

    private static void draws() {
        Check.says("A seed becomes itself times 1103515245 and 12345 (an int that wraps);"
                + " a DRAW of n is its bits 16 to 30 MOD n then.");
        // 0 becomes 12345: bits 16 to 30 are 0, CYCLES; that becomes -740551042 (0xd3dc167e): 0x53dc is 21468, MOD 5 is 3
        CascadeBus x = ramp();
        due("0: four CYCLES", x.years(0, 1, 0), 4 + 3);
        // 1 becomes 1103527590 (0x41c67ea6): 0x41c6 is 16838, MOD 6 is 2: TARGET;
        // then 2524885223 wraps (0x967eb0e7 has its highest bit): 0x167e is 5758, MOD 3 is 1; 10113 MOD 4 is 1
        CascadeBus y = ramp();
        due("1: the INPUT's TARGET is 1", y.years(1, 1, 0), 0);
        due("as told so", seedRow(1, 6, 3, 4), 2 * 100 + 1 * 10 + 1);
        due("bit 31 is none of it", seedRow(0, 6, 5), 0 * 10 + 3);
    }

    /** DRAWS in a row, as digits. */
    private static int seedRow(int from, int... of) {
        seed = from;
        int row = 0;
        for (int n : of) {
            row = row * 10 + draw(n);
        }
        return row;
    }
}
