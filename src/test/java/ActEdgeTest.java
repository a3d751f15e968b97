import java.util.function.IntSupplier;

/** Each sentence that names an edge about what can be seen and what is done: promises 5 to 14, 27 and 28. */
public final class ActEdgeTest {
    private static final int NONE = CascadeBus.NONE;
    private static final int[] FAR = {Integer.MIN_VALUE, -1000, -1, Integer.MAX_VALUE};

    /** INPUT 0, PID 1 and PICK 3 in DEVICE 0, OUTPUT 2 in DEVICE 1. */
    private static final String FOUR = "devices 3;block 0 1 input 0;block 0 2 pid 100 10 man back;"
            + "block 1 3 output 0 50;block 0 1 pick most;link 0 1 value;link 1 2 set;link 0 3 other;plant 2 0 100 1;";

    private ActEdgeTest() {
    }

    public static void main(String[] args) {
        count();
        countEdges();
        block();
        link();
        plant();
        target();
        modes();
        hand();
        handOfModes();
        power();
        broken();
        cycles();
        lastTime();
        status();
        actsKept();
        undo();
        undoEach();
        image();
        imageOfAll();
        imageOfNoted();
        restore();
        manyCalls();
        Check.end("ActEdgeTest");
    }

    private static void due(String what, long got, long want) {
        Check.due(what, got, want);
    }

    /** A call that is refused: NONE, STATUS 1 is 1 more, and nothing else changes. */
    private static void refused(String what, CascadeBus x, IntSupplier call) {
        int[] before = Check.picture(x);
        int[] status = Check.status(x);
        due(what, Check.answer(call), NONE);
        Check.same(what + ", nothing changes", Check.picture(x), before);
        Check.dueAll(what + ", STATUS", Check.status(x), status[0], status[1] + 1, status[2]);
    }

    private static void throwsNoSuch(String what, CascadeBus x, IntSupplier call) {
        int[] before = Check.picture(x);
        int[] status = Check.status(x);
        Check.noSuch(what, call);
        Check.same(what + ", nothing changes", Check.picture(x), before);
        Check.dueAll(what + ", no STATUS", Check.status(x), status);
    }

    private static void count() {
        Check.says("0 DEVICES, 1 BLOCKS, 2 LINKS, 3 TIME, 4 the SCHEDULER (NONE), 5 WAIT (0 with a SCHEDULER),"
                + " 6 DEVICES ON (bits), 7 LENGTH, 8 SLOTS that are used, 9 SENSORS that are BROKEN (bits),"
                + " 10 ACTS that are kept, 11 NOTED, 12 bytes of the tape, 13 to 15 STATUS 0 to 2.");
        CascadeBus x = Check.told(FOUR + "over 7;");
        x.cycles(4);
        x.power(0, false);
        x.cycles(1);
        x.broken(0, true);
        x.broken(3, true);
        x.note(0, 1, 1);
        x.note(0, 1, 2);
        Check.tell(x, "?");
        x.target(4, 0);
        x.target(4, 0);
        for (int k = 0; k < 3; k++) {
            x.note(4, 1, 1);
        }
        x.feed(0, 0, 0, 0, 0);
        x.feed(0, 0, 0, 0, 0);
        // 0 .. 1, 1 .. 3, SLOT 3, 4 .. 7, the way BACK's 7; the PICK at 3 .. 4
        int[] due = {3, 4, 3, 5, NONE, 6, 6, 8, 2, 9, 5, 2, 40, 1, 2, 3};
        for (int what = 0; what < due.length; what++) {
            due("count " + what, x.count(what), due[what]);
        }
    }

    private static void countEdges() {
        Check.says("NoSuchElementException: another what.");
        CascadeBus x = Check.told(FOUR);
        throwsNoSuch("count 16", x, () -> x.count(16));
        for (int what : FAR) {
            throwsNoSuch("count " + what, x, () -> x.count(what));
        }
        Check.says("5 WAIT (0 with a SCHEDULER)");
        due("with one", x.count(5), 0);
        x.power(0, false);
        due("without", x.count(5), 2);
        x.cycles(3);
        due("with the next one", x.count(5), 0);
    }

    private static void block() {
        Check.says("0 KIND, 1 DEVICE, 2 TIME, 3 START, 4 END, 5 TARGET, 6 ACTUAL, 7 SETPOINT, 8 OUT, 9 LAST,"
                + " 10 whether GOOD, 11 LIMIT, 12 whether ACK, 13 the how manyth it is taken (0 on).");
        CascadeBus x = Check.told("block 0 2 input 0;" + "block 1 3 pid 50 10 man back;" + "block 1 1 output 1 60;"
                + "link 0 1 value;link 1 2 set;");
        x.target(0, 1);
        x.hand(0, 100);
        x.cycles(2);
        x.hand(1, 300);
        x.cycles(1);
        // E is 200, LAST was -100: 150 and 20
        int[] pid = {1, 1, 3, 3, 6, 2, 2, 300, 170, 200, 1, 1, 0, 1};
        int[] output = {2, 1, 1, 6, 7, 3, 3, 170, 60, 0, 1, 2, 0, 2};
        for (int what = 0; what < 14; what++) {
            due("PID " + what, x.block(1, what), pid[what]);
            due("OUTPUT " + what, x.block(2, what), output[what]);
        }
        Check.says("NoSuchElementException: no such BLOCK (as everywhere), another what.");
        for (int wrong : new int[] {Integer.MIN_VALUE, -1, 3, 9, 10, Integer.MAX_VALUE}) {
            throwsNoSuch("block " + wrong, x, () -> x.block(wrong, 0));
        }
        for (int wrong : new int[] {Integer.MIN_VALUE, -1, 14, Integer.MAX_VALUE}) {
            throwsNoSuch("block what " + wrong, x, () -> x.block(0, wrong));
        }
        throwsNoSuch("both", x, () -> x.block(3, 14));
        CascadeBus empty = new CascadeBus();
        throwsNoSuch("of none", empty, () -> empty.block(0, 0));
        CascadeBus full = Check.told("block 0 1 input 0;".repeat(10));
        due("the tenth", full.block(9, 13), 9);
        throwsNoSuch("the eleventh", full, () -> full.block(10, 0));
    }

    private static void link() {
        Check.says("0 from, 1 to, 2 where (0 VALUE, 1 OTHER, 2 SET), 3 SLOT (NONE within a DEVICE), 4 value, 5 whether"
                + " GOOD, 6 LIMIT, 7 whether ACK, 8 AGE; of its way BACK (of a SET alone, else NONE) 9 SLOT (NONE within"
                + " a DEVICE), 10 value, 11 whether GOOD, 12 LIMIT, 13 whether ASK, 14 AGE.");
        CascadeBus x = Check.told("block 0 1 input 0;block 0 1 pid 50 10 man back;block 0 1 pick most;"
                + "block 1 1 output 1 60;link 0 1 value;link 1 3 set;link 0 2 other;block 1 1 pick most;link 0 4 value;"
                + "block 1 1 output 2 1;block 1 1 pid 0 0 man back;link 6 5 set;");
        x.target(0, 1);
        x.hand(0, 100);
        x.cycles(2);
        x.hand(1, 300);
        x.cycles(1);
        x.power(0, false);
        x.cycles(1);
        // INPUT 0 .. 1, PID 1 .. 2, PICK 2 .. 3; OUTPUT SLOT 2, 3 .. 4, PICK 4 SLOT 1, 4 .. 5; its way BACK 4
        int[] value = {0, 1, 0, NONE, 100, 1, 0, 0, 1, NONE, NONE, NONE, NONE, NONE, NONE};
        int[] set = {1, 3, 2, 2, 170, 1, 1, 0, 1, 4, 60, 1, 2, 0, 1};
        int[] other = {0, 2, 1, NONE, 100, 1, 0, 0, 1, NONE, NONE, NONE, NONE, NONE, NONE};
        int[] across = {0, 4, 0, 1, 100, 1, 0, 0, 1, NONE, NONE, NONE, NONE, NONE, NONE};
        int[] within = {6, 5, 2, NONE, 0, 1, 1, 0, 0, NONE, 0, 1, 1, 0, 0};
        for (int what = 0; what < 15; what++) {
            due("VALUE " + what, x.link(0, what), value[what]);
            due("SET " + what, x.link(1, what), set[what]);
            due("OTHER " + what, x.link(2, what), other[what]);
            due("VALUE across " + what, x.link(3, what), across[what]);
            due("SET within " + what, x.link(4, what), within[what]);
        }
        Check.says("NoSuchElementException: no such LINK, another what.");
        for (int wrong : new int[] {Integer.MIN_VALUE, -1, 5, 11, 12, Integer.MAX_VALUE}) {
            throwsNoSuch("link " + wrong, x, () -> x.link(wrong, 0));
        }
        for (int wrong : new int[] {Integer.MIN_VALUE, -1, 15, Integer.MAX_VALUE}) {
            throwsNoSuch("link what " + wrong, x, () -> x.link(0, wrong));
            throwsNoSuch("link what " + wrong, x, () -> x.link(1, wrong));
        }
        CascadeBus empty = Check.told("block 0 1 input 0;");
        throwsNoSuch("of none", empty, () -> empty.link(0, 0));
    }

    private static void plant() {
        Check.says("Of a SENSOR: its value (what 0), ACTUATOR (1; NONE: no PLANT); of an ACTUATOR (2) its OUT."
                + " NoSuchElementException: not 0 to 3, another what.");
        CascadeBus x = Check.told("plant 0 3 100 1;plant 3 0 100 1;block 0 1 output 3 1;block 0 1 output 0 1;");
        x.hand(0, 7);
        x.hand(1, 9);
        x.target(0, 1);
        x.target(1, 1);
        x.cycles(1);
        x.hand(0, 8);
        int[][] due = {{7, 3, 9}, {0, NONE, 0}, {0, NONE, 0}, {9, 0, 8}};
        for (int port = 0; port < 4; port++) {
            for (int what = 0; what < 3; what++) {
                due("plant " + port + " " + what, x.plant(port, what), due[port][what]);
            }
        }
        for (int wrong : new int[] {Integer.MIN_VALUE, -1, 4, Integer.MAX_VALUE}) {
            for (int what = 0; what < 3; what++) {
                int w = what;
                throwsNoSuch("plant " + wrong, x, () -> x.plant(wrong, w));
            }
        }
        for (int wrong : new int[] {Integer.MIN_VALUE, -1, 3, Integer.MAX_VALUE}) {
            throwsNoSuch("plant what " + wrong, x, () -> x.plant(0, wrong));
        }
    }

    private static void target() {
        Check.says("A TARGET is told: what it was. NONE (STATUS 1): no such BLOCK, not 0 to 3 (2 of INPUT, PICK),"
                + " it is so already.");
        CascadeBus x = Check.told(FOUR);
        int[] most = {2, 3, 3, 2};
        int[] was = {2, 2, 3, 2};
        for (int b = 0; b < 4; b++) {
            int block = b;
            refused("so already", x, () -> x.target(block, was[block]));
            for (int mode = 0; mode <= most[b]; mode++) {
                if (mode != was[b]) {
                    due("what it was", x.target(b, mode), was[b]);
                    due("TARGET", x.block(b, 5), mode);
                    due("ACTUAL isn't yet", x.block(b, 6), 1);
                    due("back", x.target(b, was[b]), mode);
                }
            }
            refused("one more than the most", x, () -> x.target(block, most[block] + 1));
            refused("4", x, () -> x.target(block, 4));
            for (int mode : FAR) {
                refused("mode " + mode, x, () -> x.target(block, mode));
            }
        }
        for (int wrong : new int[] {Integer.MIN_VALUE, -1, 4, 10, Integer.MAX_VALUE}) {
            refused("no such BLOCK " + wrong, x, () -> x.target(wrong, 1));
        }
        CascadeBus empty = new CascadeBus();
        refused("of none", empty, () -> empty.target(0, 1));
        CascadeBus off = Check.told(FOUR);
        off.power(0, false);
        due("also where it is OFF", off.target(0, 1), 2);
    }

    private static void modes() {
        Check.says("(0 OUT OF SERVICE, 1 MAN, 2 AUTO, 3 CASCADE: of PID, OUTPUT alone)");
        CascadeBus x = Check.told(FOUR);
        for (int b = 0; b < 4; b++) {
            x.target(b, 3);
        }
        int[] targets = {x.block(0, 5), x.block(1, 5), x.block(2, 5), x.block(3, 5)};
        Check.dueAll("TARGET", targets, 2, 3, 3, 2);
        Check.dueAll("INPUT, PICK refused, the OUTPUT's is so already", Check.status(x), 0, 3, 0);
    }

    private static void hand() {
        Check.says("By HAND: what it was. NONE (STATUS 1): no such BLOCK, not 0 to 1000, nothing that can be told so.");
        CascadeBus x = Check.told(FOUR);
        for (int b = 0; b < 4; b++) {
            int block = b;
            due("0", x.hand(b, 0), 0);
            due("1000", x.hand(b, 1000), 0);
            due("OUT of what is 1", x.block(b, 8), 1000);
            due("what it was", x.hand(b, 5), 1000);
            due("the same again", x.hand(b, 5), 5);
            refused("1001", x, () -> x.hand(block, 1001));
            for (int value : FAR) {
                refused("value " + value, x, () -> x.hand(block, value));
            }
        }
        due("each is an ACT", x.count(10), 16);
        for (int wrong : new int[] {Integer.MIN_VALUE, -1, 4, 10, Integer.MAX_VALUE}) {
            refused("no such BLOCK " + wrong, x, () -> x.hand(wrong, 1));
        }
        CascadeBus empty = new CascadeBus();
        refused("of none", empty, () -> empty.hand(0, 1));
    }

    private static void handOfModes() {
        Check.says("by HAND: OUT of what is 1 (ACTUAL), SETPOINT of a PID, an OUTPUT that is 2");
        CascadeBus x = Check.told(FOUR);
        x.cycles(1);
        refused("an INPUT that is 2", x, () -> x.hand(0, 1));
        refused("a PICK that is 2", x, () -> x.hand(3, 1));
        due("a PID that is 2: SETPOINT", x.hand(1, 1000), 0);
        due("SETPOINT", x.block(1, 7), 1000);
        due("its OUT stays", x.block(1, 8), 0);
        due("an OUTPUT that is 2: SETPOINT", x.hand(2, 1000), 0);
        due("SETPOINT", x.block(2, 7), 1000);
        due("its OUT stays", x.block(2, 8), 0);
        due("0 again", x.hand(1, 0), 1000);
        refused("1001 of a SETPOINT", x, () -> x.hand(1, 1001));
        refused("-1 of a SETPOINT", x, () -> x.hand(1, -1));
        x.cycles(1);
        due("the OUTPUT is 3", x.block(2, 6), 3);
        refused("an OUTPUT that is 3", x, () -> x.hand(2, 1));
        x.target(2, 2);
        refused("TARGET alone isn't ACTUAL", x, () -> x.hand(2, 1));
        for (int b = 0; b < 4; b++) {
            x.target(b, 0);
        }
        x.cycles(1);
        for (int b = 0; b < 4; b++) {
            int block = b;
            refused("what is 0", x, () -> x.hand(block, 1));
        }
        CascadeBus y = Check.told("block 0 1 input 0;block 0 1 pid 0 0 man back;block 0 1 pid 0 0 man back;"
                + "link 0 1 value;link 0 2 value;link 1 2 set;");
        y.cycles(2);
        due("a PID is 3", y.block(2, 6), 3);
        refused("a PID that is 3", y, () -> y.hand(2, 1));
    }

    private static void power() {
        Check.says("A DEVICE goes OFF (false), ON (true): DEVICES ON (bits). NONE (STATUS 1): no such DEVICE,"
                + " it is so already.");
        for (int many = 1; many <= 5; many++) {
            CascadeBus x = Check.told("devices " + many + ";");
            int on = (1 << many) - 1;
            for (int d = many - 1; d >= 0; d--) {
                int device = d;
                refused("ON already", x, () -> x.power(device, true));
                on -= 1 << d;
                due("OFF", x.power(d, false), on);
                refused("OFF already", x, () -> x.power(device, false));
            }
            due("none is ON", x.count(6), 0);
            due("the last one was the SCHEDULER", x.count(4), NONE);
            due("ON", x.power(many - 1, true), 1 << many - 1);
            for (int wrong : new int[] {Integer.MIN_VALUE, -1, many, 31, 32, Integer.MAX_VALUE}) {
                refused("no such DEVICE", x, () -> x.power(wrong, false));
                refused("no such DEVICE", x, () -> x.power(wrong, true));
            }
        }
        Check.says("a DEVICE goes OFF (if it was the SCHEDULER, there is none, WAIT is OVER), or ON");
        CascadeBus y = Check.told("devices 3;over 9;");
        y.power(1, false);
        due("it wasn't", y.count(4), 0);
        due("no WAIT", y.count(5), 0);
        y.power(0, false);
        due("it was", y.count(4), NONE);
        due("WAIT", y.count(5), 9);
        y.cycles(4);
        y.power(1, true);
        due("ON: still none", y.count(4), NONE);
        due("WAIT goes on", y.count(5), 5);
    }

    private static void broken() {
        Check.says("A SENSOR is BROKEN (true), sound (false): those that are BROKEN (bits). NONE (STATUS 1):"
                + " no such SENSOR, it is so already.");
        CascadeBus x = new CascadeBus();
        int bits = 0;
        for (int s = 3; s >= 0; s--) {
            int sensor = s;
            refused("sound already", x, () -> x.broken(sensor, false));
            bits += 1 << s;
            due("BROKEN", x.broken(s, true), bits);
            refused("BROKEN already", x, () -> x.broken(sensor, true));
        }
        due("all", x.count(9), 15);
        due("sound", x.broken(2, false), 11);
        for (int wrong : new int[] {Integer.MIN_VALUE, -1, 4, 31, 32, 35, Integer.MAX_VALUE}) {
            refused("no such SENSOR", x, () -> x.broken(wrong, true));
            refused("no such SENSOR", x, () -> x.broken(wrong, false));
        }
    }

    private static void cycles() {
        Check.says("CYCLES go by: TIME. NONE (STATUS 1): not 1 to 30, it would be above 2000.");
        CascadeBus x = Check.told(FOUR);
        for (int wrong : new int[] {Integer.MIN_VALUE, -30, -1, 0, 31, 32, 2000, Integer.MAX_VALUE}) {
            refused("cycles " + wrong, x, () -> x.cycles(wrong));
        }
        due("1", x.cycles(1), 1);
        due("30", x.cycles(30), 31);
        CascadeBus many = Check.told("block 0 1 output 0 1;");
        CascadeBus single = Check.told("block 0 1 output 0 1;");
        for (CascadeBus each : new CascadeBus[] {many, single}) {
            each.cycles(1);
            each.hand(0, 1000);
        }
        many.cycles(30);
        for (int k = 0; k < 30; k++) {
            single.cycles(1);
        }
        due("thirty of them", many.block(0, 8), 30);
        due("as one by one", single.block(0, 8), 30);
    }

    private static CascadeBus atTime(int time) {
        CascadeBus x = Check.told("block 0 1 output 0 1;");
        while (x.count(3) < time) {
            x.cycles(Math.min(30, time - x.count(3)));
        }
        return x;
    }

    private static void lastTime() {
        Check.says("it would be above 2000");
        CascadeBus x = atTime(1970);
        due("2000 isn't above", x.cycles(30), 2000);
        refused("2001 is", x, () -> x.cycles(1));
        refused("2030 is", x, () -> x.cycles(30));
        due("undone", x.undo() >= 0 ? x.count(3) : -9, 1970);
        due("1971", x.cycles(1), 1971);
        refused("2001 is", x, () -> x.cycles(30));
        due("29", x.cycles(29), 2000);
        CascadeBus y = atTime(1999);
        refused("2001 is", y, () -> y.cycles(2));
        due("2000", y.cycles(1), 2000);
        due("what comes is told behind it, too", y.then(0, 60, 1), 2);
        due("other ACTS are free", y.target(0, 1), 2);
    }

    private static void status() {
        Check.says("STATUS: how many calls were refused: 0 TEXTS with a FAULT, 1 ACTS, 2 what is NOTED.");
        CascadeBus x = Check.told(FOUR);
        Check.tell(x, "x");
        Check.tell(x, "old 0;");
        Check.dueAll("TEXTS", Check.status(x), 2, 0, 0);
        x.target(9, 9);
        x.hand(9, 9);
        x.power(9, true);
        x.broken(9, true);
        x.cycles(99);
        Check.dueAll("ACTS", Check.status(x), 2, 5, 0);
        x.note(9, 9, 9);
        Check.dueAll("NOTED", Check.status(x), 2, 5, 1);
        x.undo();
        x.restore();
        for (int k = 0; k < 46; k++) {
            x.feed(0, 0, 0, 0, 0);
        }
        Check.illegal("bus", () -> x.bus(901));
        Check.noSuch("then", () -> x.then(9, 0, 0));
        Check.illegal("years", () -> x.years(0, 31, 0));
        Check.dueAll("no other call counts", Check.status(x), 2, 5, 1);
        x.target(1, 1);
        x.note(0, 1, 1);
        Check.dueAll("none that isn't refused", Check.status(x), 2, 5, 1);
    }

    private static void actsKept() {
        Check.says("ACTS (at most 40 are kept, the latest ones)");
        for (int many = 39; many <= 42; many++) {
            CascadeBus x = Check.told("block 0 1 pick most;");
            for (int k = 1; k <= many; k++) {
                due("told", x.hand(0, k), k - 1);
                due("kept", x.count(10), Math.min(40, k));
            }
            int kept = Math.min(40, many);
            for (int k = 1; k <= kept; k++) {
                due("how many are left", x.undo(), kept - k);
                due("the last one first", x.block(0, 8), many - k);
            }
            due("there is none", x.undo(), NONE);
            due("what isn't kept is so", x.block(0, 8), many - kept);
        }
        CascadeBus round = Check.told("block 0 1 pick most;");
        for (int k = 1; k <= 130; k++) {
            round.hand(0, k);
        }
        for (int k = 1; k <= 15; k++) {
            round.undo();
        }
        for (int k = 1; k <= 20; k++) {
            round.hand(0, 500 + k);
        }
        due("full again", round.count(10), 40);
        for (int k = 19; k >= 1; k--) {
            round.undo();
            due("those behind", round.block(0, 8), 500 + k);
        }
        round.undo();
        due("and those ahead", round.block(0, 8), 115);
        for (int k = 19; k >= 0; k--) {
            due("left", round.undo(), k);
        }
        due("to the oldest", round.block(0, 8), 95);
        due("there is none", round.undo(), NONE);
    }

    private static void undo() {
        Check.says("The last ACT is UNDONE: how many are left. NONE: there is none.");
        CascadeBus x = Check.told(FOUR);
        int[] first = Check.picture(x);
        due("none", x.undo(), NONE);
        Check.same("nothing changes", Check.picture(x), first);
        Check.dueAll("no STATUS", Check.status(x), 0, 0, 0);
        x.cycles(2);
        x.target(9, 9);
        due("a refused one is none", x.count(10), 1);
        due("0 are left", x.undo(), 0);
        Check.same("as it was", Check.picture(x), first);
        Check.dueAll("STATUS isn't undone", Check.status(x), 0, 1, 0);
        due("none", x.undo(), NONE);
        x.note(0, 1, 1);
        x.cycles(1);
        x.note(0, 2, 1);
        x.undo();
        due("what is NOTED isn't undone", x.count(11), 2);
        x.cycles(1);
        x.undo();
        x.cycles(3);
        due("behind an undone one", x.undo(), 0);
        due("TIME", x.count(3), 0);
    }

    private static void undoEach() {
        Check.says("They are UNDONE, the last one first.");
        CascadeBus x = Check.told(FOUR);
        int[][] before = new int[9][];
        for (int k = 0; k < 9; k++) {
            before[k] = Check.picture(x);
            switch (k) {
                case 0: x.cycles(1); break;
                case 1: x.hand(1, 300); break;
                case 2: x.cycles(5); break;
                case 3: x.target(1, 3); break;
                case 4: x.power(0, false); break;
                case 5: x.broken(0, true); break;
                case 6: x.cycles(30); break;
                case 7: x.power(0, true); break;
                default: x.broken(0, false); break;
            }
        }
        for (int k = 8; k >= 0; k--) {
            due("left", x.undo(), k);
            Check.same("as ahead of ACT " + k, Check.picture(x), before[k]);
        }
    }

    private static void image() {
        Check.says("AN IMAGE is kept, in place of another one.");
        CascadeBus x = Check.told(FOUR);
        x.cycles(1);
        x.image();
        x.cycles(2);
        x.image();
        x.cycles(4);
        due("restored", x.restore(), true);
        due("the later one", x.count(3), 3);
        due("its ACTS", x.count(10), 2);
        Check.dueAll("no STATUS, no ACT", Check.status(x), 0, 0, 0);
    }

    private static void due(String what, boolean got, boolean want) {
        Check.due(what, got, want);
    }

    private static void imageOfAll() {
        Check.says("AN IMAGE keeps all that CYCLES and ACTS change, ACTS that are kept, what is NOTED, STATUS.");
        CascadeBus x = Check.told(FOUR);
        for (int k = 1; k <= 50; k++) {
            x.hand(3, k);
        }
        x.cycles(2);
        x.hand(1, 400);
        x.cycles(3);
        x.power(0, false);
        x.broken(1, true);
        x.cycles(1);
        x.note(1, 3, 2);
        x.note(0, 3, 2);
        Check.tell(x, "x");
        x.target(9, 9);
        x.note(9, 9, 9);
        int fits = x.fits();
        int[] before = Check.picture(x);
        x.image();
        x.power(0, true);
        x.broken(0, true);
        x.broken(1, false);
        x.target(1, 1);
        x.target(0, 0);
        x.cycles(30);
        x.hand(1, 9);
        x.forget();
        x.note(2, 1, 1);
        x.note(2, 2, 2);
        x.note(2, 3, 3);
        Check.tell(x, "x");
        x.target(9, 9);
        x.note(9, 9, 9);
        x.feed(0, 0, 0, 0, 0);
        due("restored", x.restore(), true);
        Check.same("as the IMAGE", Check.picture(x), before);
        Check.dueAll("STATUS", Check.status(x), 1, 1, 1);
        due("NOTED as it was", x.fits(), fits);
        due("the tape is none of it", x.count(12), 20);
        for (int k = 39; k >= 0; k--) {
            due("its ACTS", x.undo(), k);
        }
        due("to the oldest that was kept", x.block(3, 8), 16);
        due("again", x.restore(), true);
        Check.same("as the IMAGE", Check.picture(x), before);
        for (int k = 0; k < 6; k++) {
            x.undo();
        }
        due("ACTS of the IMAGE aren't touched by those", x.block(3, 8), 50);
    }

    private static void imageOfNoted() {
        Check.says("what is NOTED, STATUS.");
        CascadeBus x = Check.told("devices 3;old 3;block 1 1 input 0;block 2 1 pid 0 0 man back;link 0 1 value;");
        x.cycles(1);
        x.note(1, 3, 2);
        x.note(1, 4, 1);
        for (int k = 0; k < 4; k++) {
            x.note(0, 1, 2);
        }
        due("DEVICE 1 alone", x.fits(), 4);
        x.image();
        x.forget();
        x.note(1, 2, 1);
        x.note(0, 1, 2);
        due("SENSOR 0 alone", x.fits(), 64);
        due("restored", x.restore(), true);
        due("there are 6", x.count(11), 6);
        due("each as it was", x.fits(), 4);
        due("there are 6", x.note(0, 1, 2), NONE);
        x.restore();
        x.forget();
        x.image();
        x.note(0, 1, 0);
        x.restore();
        due("nothing NOTED is kept, too", x.count(11), 0);
        due("all CAUSES", x.fits(), 1 | 2 | 4 | 8 | 64);
    }

    private static void restore() {
        Check.says("It is as the IMAGE again: true. False: there is none.");
        CascadeBus x = Check.told(FOUR);
        x.cycles(1);
        int[] before = Check.picture(x);
        due("none", x.restore(), false);
        Check.same("nothing changes", Check.picture(x), before);
        Check.dueAll("no STATUS", Check.status(x), 0, 0, 0);
        x.image();
        due("at once", x.restore(), true);
        Check.same("nothing changes", Check.picture(x), before);
        x.undo();
        due("ahead of it in ACTS", x.restore(), true);
        Check.same("as the IMAGE", Check.picture(x), before);
        Check.tell(x, "");
        due("gone with another TEXT", x.restore(), false);
        x.image();
        x.cycles(7);
        due("of an empty bus", x.restore(), true);
        due("TIME", x.count(3), 0);
        CascadeBus fresh = new CascadeBus();
        due("a new object has none", fresh.restore(), false);
        fresh.image();
        fresh.power(1, false);
        due("but may have", fresh.restore(), true);
        due("ON", fresh.count(6), 3);
    }

    private static void manyCalls() {
        Check.says("An object is used for at most 512 calls after it has been made");
        CascadeBus x = new CascadeBus();
        x.feed(0x626c6f63, 0x6b203020, 0x31207069, 0x636b206d, 0x6f73743b);
        due("bus", x.bus(20), 0);
        for (int call = 3; call <= 510; call++) {
            due("call " + call, x.hand(0, call), call == 3 ? 0 : call - 1);
        }
        due("the 511th", x.undo(), 39);
        due("the 512th", x.block(0, 8), 509);
    }
}
