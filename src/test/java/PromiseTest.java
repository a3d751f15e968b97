/** Each promise by itself: ordinary calls, the edges that the document names, wrong calls; reckoned by hand. */
public final class PromiseTest {
    /** A loop in one DEVICE: INPUT 0, PID 1, OUTPUT 2; its sensor is what the actuator was a CYCLE ago. */
    private static final String LOOP = "devices 1; block 0 1 input 0; block 0 2 pid 100 10 man back;"
            + " block 0 1 output 0 50; link 0 1 value; link 1 2 set; plant 0 0 100 1;";

    /** The same over two DEVICES: INPUT and PID in 0, the OUTPUT in 1. */
    private static final String APART = "block 0 1 input 0; block 0 2 pid 100 10 man back;"
            + " block 1 3 output 0 50; link 0 1 value; link 1 2 set; plant 0 0 100 1;";

    private PromiseTest() {
    }

    public static void main(String[] args) {
        newObject();
        feed();
        bus();
        faults();
        faultPlaces();
        count();
        laidCycle();
        block();
        link();
        plant();
        target();
        hand();
        power();
        broken();
        cycles();
        modesThatFall();
        pick();
        output();
        pidLimits();
        undo();
        then();
        first();
        jump();
        lost();
        toRide();
        toTune();
        slack();
        note();
        fits();
        look();
        years();
        image();
        Check.end("PromiseTest");
    }

    private static void due(String what, long got, long want) {
        Check.due(what, got, want);
    }

    private static void noSuch(String what, java.util.function.IntSupplier call) {
        Check.due(what, Check.answer(call), Check.NO_SUCH);
    }

    private static void illegal(String what, java.util.function.IntSupplier call) {
        Check.due(what, Check.answer(call), Check.ILLEGAL);
    }

    private static void fault(String text, int fault, int place) {
        CascadeBus x = new CascadeBus();
        due("FAULT of: " + text, Check.tell(x, text), fault);
        due("place in: " + text, x.fault(), place);
    }

    private static void newObject() {
        CascadeBus x = new CascadeBus();
        int[] counts = {2, 0, 0, 0, 0, 0, 3, 0, 0, 0, 0, 0, 0, 0, 0, 0};
        for (int what = 0; what < counts.length; what++) {
            due("new: count " + what, x.count(what), counts[what]);
        }
        due("NONE", CascadeBus.NONE, -1);
        due("new: fault", x.fault(), -1);
        due("new: restore", x.restore() ? 1 : 0, 0);
        due("new: undo", x.undo(), -1);
    }

    private static void feed() {
        CascadeBus x = new CascadeBus();
        for (int k = 1; k <= 45; k++) {
            due("feed", x.feed(k, -k, 0, Integer.MIN_VALUE, Integer.MAX_VALUE), 20 * k);
        }
        due("feed beyond 900", x.feed(0, 0, 0, 0, 0), -1);
        due("the tape stays", x.count(12), 900);
        illegal("bus beyond the tape", () -> x.bus(901));
        due("the tape stays", x.count(12), 900);
        due("bus of what is no text", x.bus(900), 1);
        due("at its first byte", x.fault(), 0);
        due("the tape is empty", x.count(12), 0);
        // "old 1;ov" "er 2;" by hand, the highest byte first
        due("feed", x.feed(0x6f6c6420, 0x313b6f76, 0x65722032, 0x3b202020, 0x20202020), 20);
        due("bus", x.bus(13), 0);
        due("a byte above 127 is no token", x.feed(0xe1e1e1e1, 0, 0, 0, 0), 20);
        due("bus", x.bus(1), 1);
    }

    private static void bus() {
        CascadeBus x = Check.told(LOOP);
        illegal("bus below 0", () -> x.bus(-1));
        illegal("bus beyond an empty tape", () -> x.bus(1));
        x.cycles(3);
        x.note(0, 1, 2);
        x.target(9, 9);
        x.note(9, 9, 9);
        x.image();
        due("a text with a fault", Check.tell(x, "old"), 1);
        due("all stays: BLOCKS", x.count(1), 3);
        due("all stays: TIME", x.count(3), 3);
        due("all stays: ACTS", x.count(10), 1);
        due("all stays: NOTED", x.count(11), 1);
        due("but STATUS", x.count(13), 1);
        due("a text of no bytes", Check.tell(x, ""), 0);
        due("anew: DEVICES", x.count(0), 2);
        due("anew: BLOCKS", x.count(1), 0);
        due("anew: TIME", x.count(3), 0);
        due("anew: ACTS", x.count(10), 0);
        due("anew: NOTED", x.count(11), 0);
        due("anew: image", x.restore() ? 1 : 0, 0);
        due("anew: fault", x.fault(), -1);
        due("STATUS goes on", x.count(13), 1);
        due("STATUS goes on", x.count(14), 1);
        due("STATUS goes on", x.count(15), 1);
        CascadeBus y = Check.told(LOOP);
        y.image();
        y.cycles(1);
        Check.tell(y, ";");
        due("the image stays behind a fault", y.restore() ? 1 : 0, 1);
        due("and STATUS is as it was", y.count(13), 0);
        due("but not the fault's place", y.fault(), 0);
        due("only the first n bytes count", Check.tape(y, "old 1;") > 0 ? y.bus(0) : -1, 0);
        due("the tape is empty", y.count(12), 0);
    }

    private static void faults() {
        fault("x", 1, 0);
        fault("xld 1;", 1, 0);
        fault("olx 1;", 1, 0);
        fault("zold 1;", 1, 0);
        fault("blocks 0 1 input 0;", 1, 0);
        fault(" \n old 1", 1, 8);
        fault("old 1  \n ", 1, 9);
        fault("old ", 1, 4);
        fault("old;", 1, 3);
        fault("old one;", 1, 4);
        fault("old 1 1;", 1, 6);
        fault("Old 1;", 1, 0);
        fault("old\t1;", 1, 3);
        fault("12345;", 1, 0);
        fault("old 0;", 2, 4);
        fault("old 10;", 2, 4);
        fault("old 00001;", 2, 4);
        fault("old 4294967297;", 2, 4);
        fault("over 10;", 2, 5);
        fault("devices 0;", 2, 8);
        fault("devices 6;", 2, 8);
        fault("block 5 1 input 0;", 2, 6);
        fault("block 2 1 input 0;", 3, 6);
        fault("devices 1; block 1 1 input 0;", 3, 17);
        fault("block 0 10 input 0;", 2, 8);
        fault("block 0 1 input 4;", 2, 16);
        fault("block 0 1 input;", 1, 15);
        fault("block 0 1 pid 301 1 man back;", 2, 14);
        fault("block 0 1 pid 1 101 man back;", 2, 16);
        fault("block 0 1 pid 1 1 back man;", 1, 18);
        fault("block 0 1 pid 1 1 man auto;", 1, 22);
        fault("block 0 1 output 4 1;", 2, 17);
        fault("block 0 1 output 0 1001;", 2, 19);
        fault("block 0 1 pick 1;", 1, 15);
        fault("plant 4 0 1 1;", 2, 6);
        fault("plant 0 4 1 1;", 2, 8);
        fault("plant 0 0 301 1;", 2, 10);
        fault("plant 0 0 1 51;", 2, 12);
        fault("plant 0 0 1 0;", 2, 12);
        due("the least words", Check.tell(new CascadeBus(), "old1;over0;\n;".substring(0, 11)), 0);
        due("numbers of 4 digits", Check.tell(new CascadeBus(), "old 0001;block 0 9 output 3 1000;"), 0);
        due("the greatest", Check.tell(new CascadeBus(), "devices 5;block 4 9 pid 300 100 auto stays;"
                + "plant 3 3 300 50;old 9;over 9;"), 0);
    }

    private static void faultPlaces() {
        fault("old 1; devices 2;", 4, 7);
        fault("devices 2;devices 2;", 4, 10);
        fault("over 1;over x;", 4, 7);
        fault("old 1;over 1;old 1;", 4, 13);
        fault("plant 1 0 1 1;plant 1 0 1 1;", 4, 20);
        String two = "block 0 1 pid 1 1 man back;block 0 1 output 0 1;";
        fault(two + "link 10 1 set;", 2, 53);
        fault(two + "link 2 1 set;", 3, 53);
        fault(two + "link 0 2 set;", 3, 55);
        fault("link 0 0 value;" + two, 3, 5);
        fault(two + "link 0 1 value;", 3, 57);
        fault(two + "link 0 1 other;", 3, 57);
        fault(two + "link 1 0 set;", 3, 57);
        fault(two + "link 0 1 put;", 1, 57);
        fault(two + "link 0 0 set;", 5, 57);
        fault(two + "link 0 1 set;link 1 0 value;", 5, 70);
        fault(two + "link 0 1 set;link 0 1 set;", 5, 70);
        fault(two + "block 0 1 output 1 1;link 0 1 set;link 0 2 set;", 5, 91);
        fault(two + "block 0 1 pick most;link 2 0 value;link 0 2 other;", 5, 92);
        StringBuilder ten = new StringBuilder();
        for (int k = 0; k < 10; k++) {
            ten.append("block 0 1 pick most;");
        }
        fault(ten + "block x", 2, 200);
        due("ten BLOCKS", Check.tell(new CascadeBus(), ten.toString()), 0);
        for (int k = 1; k <= 6; k++) {
            ten.append("link 0 ").append(k).append(" value;link 0 ").append(k).append(" other;");
        }
        due("twelve LINKS", Check.tell(new CascadeBus(), ten.toString()), 0);
        fault(ten + "link", 2, 380);
        due("a place of a PICK each", Check.tell(new CascadeBus(), two + "block 1 1 pick least;"
                + "link 0 2 value;link 1 2 other;link 0 1 set;"), 0);
    }

    private static void count() {
        CascadeBus x = Check.told("devices 3;" + APART);
        x.power(0, false);
        x.broken(1, true);
        x.broken(3, true);
        x.target(0, 2);
        x.note(0, 1, 1);
        x.note(0, 0, 1);
        x.feed(0, 0, 0, 0, 0);
        int[] due = {3, 3, 2, 0, -1, 2, 6, 8, 2, 10, 3, 1, 20, 0, 1, 1};
        for (int what = 0; what < due.length; what++) {
            due("count " + what, x.count(what), due[what]);
        }
        noSuch("count -1", () -> x.count(-1));
        noSuch("count 16", () -> x.count(16));
    }

    private static void laidCycle() {
        CascadeBus x = Check.told("block 1 2 pid 1 1 man back;block 0 3 input 0;block 1 1 output 0 9;"
                + "block 0 1 input 1;block 0 2 pid 1 1 man back;link 1 0 value;link 4 0 set;link 3 4 value;link 0 2 set;");
        // 1 first (0 .. 3), then 3 (3 .. 4), 4 (4 .. 6), 0: SLOTS 3 and 6, 7 .. 9, 2 at last (9 .. 10)
        int[] turns = {3, 0, 4, 1, 2};
        int[] starts = {7, 0, 9, 3, 4};
        int[] ends = {9, 3, 10, 4, 6};
        for (int b = 0; b < 5; b++) {
            due("the how manyth: " + b, x.block(b, 13), turns[b]);
            due("START " + b, x.block(b, 3), starts[b]);
            due("END " + b, x.block(b, 4), ends[b]);
        }
        due("SLOT", x.link(0, 3), 3);
        due("SLOT", x.link(1, 3), 6);
        due("way BACK's SLOT", x.link(1, 9), 9);
        due("SLOT within", x.link(3, 3), -1);
        due("way BACK's within", x.link(3, 9), -1);
        due("LENGTH", x.count(7), 10);
        due("SLOTS", x.count(8), 3);
        CascadeBus y = Check.told("devices 3;block 0 1 input 0;block 0 1 input 1;block 1 1 pick most;"
                + "block 2 1 pick most;link 0 3 value;link 0 2 value;link 1 2 other;link 1 3 other;");
        due("2 is taken ahead of 3", y.link(1, 3), 1);
        due("one SLOT behind", y.link(2, 3), 2);
        due("3: the least that none has", y.link(0, 3), 3);
        due("and the next", y.link(3, 3), 4);
        due("LENGTH", y.count(7), 6);
        CascadeBus z = Check.told("block 0 9 pid 1 1 man back;block 1 9 output 0 1;link 0 1 set;");
        due("a way BACK's SLOT behind all", z.link(0, 9), 19);
        due("makes LENGTH", z.count(7), 20);
    }

    private static void block() {
        CascadeBus x = Check.told(APART);
        int[] first = {2, 1, 3, 4, 7, 3, 1, 0, 0, 0, 1, 0, 0, 2};
        for (int what = 0; what < first.length; what++) {
            due("block 2 " + what, x.block(2, what), first[what]);
        }
        due("a PID's TARGET", x.block(1, 5), 2);
        noSuch("block 3", () -> x.block(3, 0));
        noSuch("block -1", () -> x.block(-1, 0));
        noSuch("block what 14", () -> x.block(0, 14));
        noSuch("block what -1", () -> x.block(0, -1));
        CascadeBus y = Check.told("block 0 1 pick least;block 0 1 pick most;");
        due("KIND of a PICK", y.block(0, 0), 3);
    }

    private static void link() {
        CascadeBus x = Check.told(APART);
        int[] value = {0, 1, 0, -1, 0, 0, 0, 0, 0, -1, -1, -1, -1, -1, -1};
        int[] set = {1, 2, 2, 3, 0, 0, 0, 0, 0, 7, 0, 0, 0, 1, 0};
        for (int what = 0; what < value.length; what++) {
            due("link 0 " + what, x.link(0, what), value[what]);
            due("link 1 " + what, x.link(1, what), set[what]);
        }
        noSuch("link 2", () -> x.link(2, 0));
        noSuch("link -1", () -> x.link(-1, 0));
        noSuch("link what 15", () -> x.link(0, 15));
        noSuch("link what -1", () -> x.link(1, -1));
        x.cycles(2);
        x.power(0, false);
        x.cycles(4);
        due("AGE", x.link(1, 8), 4);
        due("BAD above OLD", x.link(1, 5), 0);
        due("AGE within a DEVICE that is OFF", x.link(0, 8), 4);
        due("a way BACK's to one that is OFF", x.link(1, 14), 4);
        due("is BAD, too", x.link(1, 11), 0);
        for (int k = 0; k < 4; k++) {
            x.cycles(30);
        }
        due("AGE at most 99", x.link(1, 8), 99);
        due("AGE at most 99", x.link(1, 14), 99);
        x.power(0, true);
        x.cycles(1);
        due("it comes again", x.link(1, 8), 0);
        due("and is GOOD", x.link(1, 5), 1);
        CascadeBus y = Check.told(APART);
        y.cycles(1);
        y.power(0, false);
        y.cycles(3);
        due("AGE 3 is not above OLD", y.link(1, 5), 1);
    }

    private static void plant() {
        CascadeBus x = Check.told("block 0 1 output 1 400;block 0 1 output 1 1000;plant 2 1 150 4;plant 0 3 100 1;");
        due("ACTUATOR", x.plant(2, 1), 1);
        due("no PLANT", x.plant(1, 1), -1);
        x.hand(0, 900);
        x.hand(1, 70);
        due("OUT of the last that goes to it", x.plant(1, 2), 70);
        due("OUT of an ACTUATOR without", x.plant(3, 2), 0);
        x.target(1, 1);
        x.cycles(1);
        due("105 by 4, cut", x.plant(2, 0), 26);
        x.cycles(1);
        due("79 by 4 more", x.plant(2, 0), 45);
        x.hand(1, 0);
        x.cycles(1);
        due("-45 by 4, cut to 0", x.plant(2, 0), 34);
        x.hand(1, 1000);
        for (int k = 0; k < 2; k++) {
            x.cycles(30);
        }
        due("at most 1000", x.plant(2, 0), 1000);
        due("of an ACTUATOR without BLOCK", x.plant(0, 0), 0);
        noSuch("plant 4", () -> x.plant(4, 0));
        noSuch("plant -1", () -> x.plant(-1, 0));
        noSuch("plant what 3", () -> x.plant(0, 3));
        noSuch("plant what -1", () -> x.plant(0, -1));
    }

    private static void target() {
        CascadeBus x = Check.told(LOOP + "block 0 1 pick most;");
        due("told", x.target(1, 3), 2);
        due("so already", x.target(1, 3), -1);
        due("3 of an INPUT", x.target(0, 3), -1);
        due("3 of a PICK", x.target(3, 3), -1);
        due("4", x.target(1, 4), -1);
        due("below 0", x.target(1, -1), -1);
        due("no such BLOCK", x.target(4, 1), -1);
        due("no such BLOCK", x.target(-1, 1), -1);
        due("STATUS 1", x.count(14), 7);
        due("0 of a PICK", x.target(3, 0), 2);
        due("of an OUTPUT", x.target(2, 2), 3);
        due("ACTS", x.count(10), 3);
        x.cycles(1);
        due("ACTUAL 0", x.block(3, 6), 0);
        due("BAD by 0", x.block(3, 10), 0);
        due("TARGET 3 without SET: falls", x.block(1, 6), 1);
    }

    private static void hand() {
        CascadeBus x = Check.told(LOOP + "block 0 1 pick most;");
        due("OUT of what is 1", x.hand(3, 1000), 0);
        due("an INPUT's, too", x.hand(0, 0), 0);
        due("1001", x.hand(3, 1001), -1);
        due("below 0", x.hand(3, -1), -1);
        due("no such BLOCK", x.hand(4, 1), -1);
        due("no such BLOCK", x.hand(-1, 1), -1);
        due("what it was", x.hand(3, 5), 1000);
        x.cycles(1);
        due("an INPUT that is 2", x.hand(0, 1), -1);
        due("a PICK that is 2", x.hand(3, 1), -1);
        due("SETPOINT of a PID that is 2", x.hand(1, 200), 0);
        due("SETPOINT", x.block(1, 7), 200);
        due("SETPOINT of an OUTPUT that is 2", x.hand(2, 300), 0);
        due("SETPOINT", x.block(2, 7), 300);
        x.cycles(1);
        due("an OUTPUT that is 3", x.hand(2, 1), -1);
        x.target(1, 0);
        x.cycles(1);
        due("a PID that is 0", x.hand(1, 1), -1);
        due("STATUS 1", x.count(14), 8);
        due("the OUTPUT fell to 2", x.hand(2, 1), 0);
        int acts = x.count(10);
        due("the same again", x.hand(2, 1), 1);
        due("is an ACT", x.count(10), acts + 1);
    }

    private static void power() {
        CascadeBus x = Check.told("devices 3; over 1;");
        due("so already", x.power(0, true), -1);
        due("OFF, no SCHEDULER", x.power(1, false), 5);
        due("the SCHEDULER stays", x.count(4), 0);
        due("no such DEVICE", x.power(3, false), -1);
        due("no such DEVICE", x.power(-1, true), -1);
        due("so already", x.power(1, false), -1);
        due("STATUS 1", x.count(14), 4);
        due("the SCHEDULER goes OFF", x.power(0, false), 4);
        due("there is none", x.count(4), -1);
        due("WAIT", x.count(5), 1);
        x.cycles(1);
        due("WAIT 1 less", x.count(5), 0);
        due("none yet", x.count(4), -1);
        x.cycles(1);
        due("the least that is ON", x.count(4), 2);
        due("none left", x.power(2, false), 0);
        x.cycles(5);
        due("there still is none", x.count(4), -1);
        due("ON again", x.power(1, true), 2);
        due("ON makes no SCHEDULER", x.count(4), -1);
        x.cycles(1);
        due("the CYCLE does", x.count(4), 1);
        due("ON again", x.power(0, true), 3);
        x.cycles(1);
        due("it isn't taken from it", x.count(4), 1);
        CascadeBus y = Check.told("over 0;");
        y.power(0, false);
        y.cycles(1);
        due("without OVER at once", y.count(4), 1);
    }

    private static void broken() {
        CascadeBus x = Check.told(LOOP);
        due("sound already", x.broken(0, false), -1);
        due("BROKEN", x.broken(3, true), 8);
        due("BROKEN", x.broken(0, true), 9);
        due("so already", x.broken(0, true), -1);
        due("no such SENSOR", x.broken(4, true), -1);
        due("no such SENSOR", x.broken(-1, true), -1);
        due("STATUS 1", x.count(14), 4);
        x.cycles(1);
        due("an INPUT's OUT is BAD", x.block(0, 10), 0);
        due("the PID falls to 1", x.block(1, 6), 1);
        due("sound again", x.broken(0, false), 8);
        x.cycles(1);
        due("GOOD", x.block(0, 10), 1);
        due("and comes back", x.block(1, 6), 2);
    }

    private static void cycles() {
        CascadeBus x = Check.told(LOOP);
        due("0", x.cycles(0), -1);
        due("31", x.cycles(31), -1);
        due("below 0", x.cycles(-5), -1);
        due("TIME", x.cycles(1), 1);
        due("the OUTPUT isn't 3 without ACK", x.block(2, 6), 2);
        due("it asks", x.link(1, 13), 1);
        due("LOW by 0", x.block(2, 11), 1);
        x.hand(1, 200);
        x.cycles(1);
        due("the PID follows", x.block(1, 12), 1);
        due("LAST", x.block(1, 9), 200);
        due("the OUTPUT is 3", x.block(2, 6), 3);
        due("it asks no more", x.link(1, 13), 0);
        x.cycles(1);
        due("OUT by RESET", x.block(1, 8), 20);
        due("no ACK", x.block(1, 12), 0);
        due("the OUTPUT's", x.block(2, 8), 20);
        due("no LIMIT", x.block(2, 11), 0);
        x.cycles(1);
        due("-20 and 18", x.block(1, 8), 18);
        for (int k = 0; k < 66; k++) {
            x.cycles(30);
        }
        due("TIME", x.count(3), 1984);
        due("beyond 2000", x.cycles(17), -1);
        due("2000", x.cycles(16), 2000);
        due("2001", x.cycles(1), -1);
        due("STATUS 1", x.count(14), 5);
        due("THEN isn't bound by it", x.then(0, 60, 1), 2);
    }

    private static void modesThatFall() {
        String cascade = "block 0 1 input 0;block 0 1 pid 0 0 man back;block 1 1 input 1;block 1 1 pid 0 0 MODE;"
                + "block 1 1 output 0 9;link 0 1 value;link 1 3 set;link 2 3 value;link 3 4 set;over 9;";
        String[] modes = {"man back", "man stays", "auto back", "auto stays"};
        int[] fallen = {1, 1, 2, 2};
        int[] targets = {3, 1, 3, 2};
        for (int k = 0; k < 4; k++) {
            CascadeBus x = Check.told(cascade.replace("MODE", modes[k]));
            x.cycles(3);
            due("CASCADE", x.block(3, 6), 3);
            x.power(0, false);
            x.cycles(3);
            due("not too old yet", x.block(3, 6), 3);
            x.cycles(1);
            due("SET is BAD, it falls: " + modes[k], x.block(3, 6), fallen[k]);
            due("TARGET: " + modes[k], x.block(3, 5), targets[k]);
            x.power(0, true);
            x.cycles(15);
            due("back, or stays: " + modes[k], x.block(3, 6), targets[k]);
            x.broken(1, true);
            x.cycles(1);
            due("VALUE BAD: it falls to 1", x.block(3, 6), 1);
            due("TARGET then", x.block(3, 5), k % 2 == 1 ? 1 : 3);
        }
        CascadeBus y = Check.told("block 0 1 output 0 9;block 0 1 pid 0 0 auto stays;");
        y.target(0, 3);
        y.cycles(1);
        due("an OUTPUT without SET falls to 2", y.block(0, 6), 2);
        due("and wants 3 still", y.block(0, 5), 3);
        due("a PID without VALUE falls to 1", y.block(1, 6), 1);
        due("and stays", y.block(1, 5), 1);
    }

    private static void pick() {
        String picks = "block 0 1 input 0;block 0 1 input 1;block 0 1 pick most;block 0 1 pick least;"
                + "block 0 1 pick most;link 0 2 value;link 1 2 other;link 0 3 value;link 1 3 other;link 1 4 other;";
        CascadeBus x = Check.told(picks);
        x.target(0, 1);
        x.target(1, 1);
        x.hand(0, 30);
        x.hand(1, 50);
        x.cycles(1);
        due("the MOST", x.block(2, 8), 50);
        due("the LEAST", x.block(3, 8), 30);
        due("the one there is", x.block(4, 8), 50);
        x.target(1, 0);
        x.cycles(1);
        due("MOST of the good", x.block(2, 8), 30);
        due("LEAST of the good", x.block(3, 8), 30);
        due("of none it stays", x.block(4, 8), 50);
        due("BAD", x.block(4, 10), 0);
        due("GOOD", x.block(3, 10), 1);
        x.target(4, 1);
        x.cycles(1);
        due("by 1 GOOD", x.block(4, 10), 1);
        x.hand(4, 7);
        x.cycles(1);
        due("by 1 it stays", x.block(4, 8), 7);
        x.target(0, 0);
        x.cycles(1);
        due("an INPUT by 0 stays", x.block(0, 8), 30);
        due("and is BAD", x.block(0, 10), 0);
    }

    private static void output() {
        CascadeBus x = Check.told("block 0 1 output 0 300;");
        x.cycles(1);
        x.hand(0, 1000);
        x.cycles(1);
        due("by RATE", x.block(0, 8), 300);
        due("HIGH: SETPOINT is above", x.block(0, 11), 2);
        x.cycles(3);
        due("there", x.block(0, 8), 1000);
        due("HIGH: 1000", x.block(0, 11), 2);
        x.hand(0, 500);
        x.cycles(1);
        due("back by RATE", x.block(0, 8), 700);
        due("LOW: SETPOINT is below", x.block(0, 11), 1);
        x.cycles(1);
        due("at it", x.block(0, 8), 500);
        due("no LIMIT", x.block(0, 11), 0);
        x.target(0, 1);
        x.cycles(1);
        x.hand(0, 40);
        x.cycles(1);
        due("by 1 SETPOINT is OUT", x.block(0, 7), 40);
        x.target(0, 0);
        x.cycles(1);
        due("by 0 it stays", x.block(0, 8), 40);
        due("BAD", x.block(0, 10), 0);
    }

    private static void pidLimits() {
        // The OUTPUT goes by 1 at most: HIGH comes back, and holds the PID.
        CascadeBus x = Check.told("block 0 1 input 0;block 0 1 pid 0 10 man back;block 0 1 output 0 1;"
                + "link 0 1 value;link 1 2 set;");
        x.cycles(1);
        x.hand(1, 500);
        x.cycles(2);
        due("one step", x.block(1, 8), 50);
        due("the OUTPUT is behind", x.link(1, 12), 2);
        x.cycles(1);
        due("held by HIGH", x.block(1, 8), 50);
        due("its LIMIT is what came back", x.block(1, 11), 2);
        x.hand(1, 10);
        x.cycles(1);
        due("a step of 1 is held, too", x.block(1, 8), 50);
        x.hand(1, 500);
        x.target(2, 0);
        x.cycles(2);
        due("BACK is BAD", x.link(1, 11), 0);
        due("OUT stays", x.block(1, 8), 50);
        due("LIMIT by itself", x.block(1, 11), 0);
        x.target(2, 1);
        x.cycles(2);
        due("it follows", x.block(1, 8), x.block(2, 8));
        due("ACK", x.block(1, 12), 1);
        x.target(1, 0);
        x.cycles(1);
        due("by 0 no ACK", x.block(1, 12), 0);
        due("LAST stays", x.block(1, 9), 500);
        CascadeBus y = Check.told("block 0 1 input 0;block 0 1 pid 150 33 man back;link 0 1 value;");
        y.cycles(1);
        y.hand(1, 1);
        y.cycles(1);
        due("150 by 100 and 33 by 100, each cut", y.block(1, 8), 1);
        y.hand(1, 700);
        y.cycles(1);
        due("1048 and 231 put to 1000", y.block(1, 8), 1000);
        due("HIGH", y.block(1, 11), 2);
        y.hand(1, 699);
        y.cycles(1);
        due("-1 (cut) and 230 put to 1000", y.block(1, 8), 1000);
        y.hand(1, 0);
        y.cycles(1);
        due("-1048", y.block(1, 8), 0);
        due("LOW", y.block(1, 11), 1);
    }

    private static void undo() {
        CascadeBus x = Check.told(LOOP);
        due("none", x.undo(), -1);
        x.target(1, 1);
        x.power(0, false);
        x.broken(2, true);
        x.hand(0, 9);
        x.cycles(7);
        due("CYCLES", x.undo(), 4);
        due("TIME", x.count(3), 0);
        due("OUT", x.block(0, 8), 9);
        due("HAND", x.undo(), 3);
        due("OUT", x.block(0, 8), 0);
        due("BROKEN", x.undo(), 2);
        due("sound", x.count(9), 0);
        due("OFF", x.undo(), 1);
        due("ON", x.count(6), 1);
        due("the SCHEDULER", x.count(4), 0);
        due("WAIT", x.count(5), 0);
        due("TARGET", x.undo(), 0);
        due("as it was", x.block(1, 5), 2);
        due("none", x.undo(), -1);
        due("no STATUS", x.count(14), 0);
        for (int k = 0; k < 45; k++) {
            x.cycles(1);
        }
        due("40 are kept", x.count(10), 40);
        for (int k = 39; k >= 0; k--) {
            due("left", x.undo(), k);
        }
        due("the latest ones", x.count(3), 5);
        due("none", x.undo(), -1);
        x.note(0, 1, 2);
        x.cycles(1);
        x.undo();
        due("NOTED stays", x.count(11), 1);
    }

    private static CascadeBus steered() {
        CascadeBus x = Check.told(LOOP);
        x.cycles(1);
        x.hand(1, 200);
        return x;
    }

    private static void then() {
        CascadeBus x = steered();
        due("OUT now", x.then(1, 0, 0), 0);
        due("OUT behind 2", x.then(1, 2, 0), 20);
        due("OUT behind 3", x.then(1, 3, 0), 18);
        due("ACTUAL", x.then(2, 1, 1), 3);
        due("SETPOINT", x.then(2, 2, 2), 20);
        due("GOOD", x.then(2, 2, 3), 1);
        due("LIMIT", x.then(2, 1, 4), 1);
        due("TARGET", x.then(2, 60, 5), 3);
        due("nothing goes by", x.count(3), 1);
        due("no ACT", x.count(10), 2);
        illegal("61", () -> x.then(0, 61, 0));
        illegal("-1", () -> x.then(0, -1, 0));
        noSuch("what 6", () -> x.then(0, 61, 6));
        noSuch("what -1", () -> x.then(0, 0, -1));
        noSuch("no such BLOCK", () -> x.then(3, 61, 0));
        noSuch("no such BLOCK", () -> x.then(-1, 0, 0));
    }

    private static void first() {
        CascadeBus x = steered();
        due("the OUTPUT", x.first(2), 1);
        due("the INPUT: none", x.first(0), -1);
        noSuch("no such BLOCK", () -> x.first(3));
        noSuch("no such BLOCK", () -> x.first(-1));
        CascadeBus y = Check.told("devices 3;block 0 1 pid 0 0 man back;block 1 1 input 0;link 1 0 value;over 9;old 9;");
        y.cycles(1);
        y.power(1, false);
        due("VALUE is too old behind 10", y.first(0), 10);
    }

    private static void jump() {
        CascadeBus x = steered();
        due("nothing at first", x.jump(1, 1), 0);
        due("20", x.jump(1, 2), 20);
        due("20 is the most, not the last", x.jump(1, 3), 20);
        illegal("0", () -> x.jump(1, 0));
        illegal("61", () -> x.jump(1, 61));
        noSuch("no such BLOCK", () -> x.jump(3, 0));
        CascadeBus y = Check.told("block 0 1 output 0 30;");
        y.hand(0, 100);
        y.cycles(1);
        due("down, too", y.jump(0, 60), 30);
        due("OUT is where it was", y.block(0, 8), 70);
    }

    private static void lost() {
        CascadeBus x = Check.told(APART);
        x.cycles(3);
        due("nothing within 3", x.lost(0, 3), 0);
        due("the OUTPUT falls behind 4", x.lost(0, 4), 4);
        due("nothing of 1 lost", x.lost(1, 30), 0);
        illegal("0", () -> x.lost(0, 0));
        illegal("31", () -> x.lost(0, 31));
        noSuch("no such DEVICE", () -> x.lost(2, 0));
        noSuch("no such DEVICE", () -> x.lost(-1, 1));
        x.power(0, false);
        due("OFF already", x.lost(0, 30), 0);
        CascadeBus y = Check.told(APART);
        due("what never came to be", y.lost(0, 2), 7);
        due("all stays", y.count(6), 3);
        due("all stays", y.count(4), 0);
    }

    private static void toRide() {
        // INPUT in 1, PID in 2; the SCHEDULER 0 has no BLOCK: a CYCLE less than OVER and the next one's.
        for (int over = 0; over <= 9; over++) {
            CascadeBus x = Check.told("devices 3;block 1 1 input 0;block 2 1 pid 0 0 man back;link 0 1 value;over "
                    + over + ";old 9;");
            x.cycles(1);
            due("OVER " + over, x.toRide(), over == 0 ? 1 : over);
        }
        CascadeBus y = Check.told(APART);
        y.cycles(3);
        due("by none", y.toRide(), -1);
        y.power(0, false);
        due("without SCHEDULER", y.toRide(), -1);
        due("without BLOCKS", new CascadeBus().toRide(), 1);
    }

    private static void toTune() {
        CascadeBus x = steered();
        due("well below", x.toTune(1, 1000, 30), 300);
        due("too high already", lowSetpoint().toTune(1, 10, 30), -1);
        illegal("above 1001", () -> x.toTune(1, 1001, 1));
        illegal("above -1", () -> x.toTune(1, -1, 1));
        illegal("cycles 0", () -> x.toTune(1, 0, 0));
        illegal("cycles 31", () -> x.toTune(1, 0, 31));
        noSuch("no PID", () -> x.toTune(0, -1, 0));
        noSuch("no such BLOCK", () -> x.toTune(3, -1, 0));
        // One step of GAIN is the whole way: VALUE is GAIN of 100, SETPOINT 100, GAIN 200 for 100 above.
        CascadeBus y = Check.told("block 0 1 input 0;block 0 1 pid 0 0 man back;block 0 1 pick most;"
                + "block 0 1 output 0 1000;link 0 1 value;link 1 3 set;plant 0 0 100 1;");
        y.cycles(2);
        y.hand(1, 100);
        due("200", y.toTune(1, 100, 2), 200);
        due("150", y.toTune(1, 50, 2), 150);
        due("100", y.toTune(1, 0, 2), 100);
        due("a CYCLE ahead of it", y.toTune(1, 0, 1), 300);
        due("GAIN stays", y.then(3, 20, 0), 0);
        y.hand(1, 0);
        y.target(3, 1);
        y.cycles(1);
        y.hand(3, 100);
        y.cycles(2);
        y.target(3, 3);
        y.cycles(1);
        y.hand(1, 100);
        due("VALUE is at SETPOINT: by 0 alone", y.toTune(1, 0, 2), 0);
        due("by 7", y.toTune(1, 7, 2), 7);
        CascadeBus z = Check.told("block 0 1 pid 0 0 man back;");
        due("without VALUE", z.toTune(0, 0, 30), 300);
    }

    /** VALUE is far above SETPOINT, and nothing moves it. */
    private static CascadeBus lowSetpoint() {
        CascadeBus x = Check.told("block 0 1 input 0;block 0 1 pid 0 0 man back;link 0 1 value;");
        x.target(0, 1);
        x.hand(0, 500);
        return x;
    }

    private static void slack() {
        CascadeBus x = Check.told("devices 3;block 0 1 input 0;block 1 9 input 1;block 2 1 pick most;"
                + "link 0 2 value;link 1 2 other;");
        due("LENGTH", x.count(7), 11);
        // by 8 more both want SLOT 9, and one waits
        due("up to the other's END, less a SLOT", x.slack(0), 7);
        due("of the longest", x.slack(1), 0);
        due("of the last", x.slack(2), 0);
        due("TIME stays", x.block(0, 2), 1);
        CascadeBus y = Check.told("block 0 9 input 0;block 0 9 input 0;block 0 9 input 0;block 0 9 input 0;"
                + "block 0 9 input 0;block 0 9 input 0;block 0 9 input 0;block 1 1 input 0;");
        due("at most 50", y.slack(7), 50);
        noSuch("no such BLOCK", () -> y.slack(8));
        noSuch("no such BLOCK", () -> y.slack(-1));
    }

    private static void note() {
        CascadeBus x = Check.told(LOOP);
        due("no such BLOCK", x.note(3, 1, 1), -1);
        due("no such BLOCK", x.note(-1, 1, 1), -1);
        due("0 CYCLES", x.note(0, 0, 1), -1);
        due("21 CYCLES", x.note(0, 21, 1), -1);
        due("mode 4", x.note(0, 1, 4), -1);
        due("mode -1", x.note(0, 1, -1), -1);
        due("STATUS 2", x.count(15), 6);
        for (int k = 1; k <= 6; k++) {
            due("NOTED", x.note(0, 20, 3), k);
        }
        due("there are 6", x.note(0, 1, 1), -1);
        due("STATUS 2", x.count(15), 7);
        due("NOTED", x.count(11), 6);
        x.forget();
        due("forgotten", x.count(11), 0);
        due("again", x.note(2, 1, 0), 1);
        due("no ACT", x.count(10), 0);
    }

    private static void fits() {
        CascadeBus x = Check.told("devices 3;" + APART);
        x.cycles(3);
        due("all causes", x.fits(), 1 | 2 | 4 | 8 | 64);
        x.note(2, 4, 2);
        due("the OUTPUT falls: DEVICE 0", x.fits(), 2);
        x.forget();
        x.note(1, 1, 1);
        due("the PID falls: SENSOR 0", x.fits(), 64);
        x.note(1, 2, 2);
        due("and both: nothing", x.fits(), 0);
        due("LOOK NEXT without any", x.look(0), -1);
        due("LOOK NEXT without any", x.look(1), 0);
        x.forget();
        x.power(2, false);
        x.broken(0, true);
        due("what is OFF, BROKEN is no cause", x.fits(), 1 | 2 | 4);
        x.broken(0, false);
        x.note(0, 20, 2);
        x.note(1, 20, 2);
        x.note(2, 20, 3);
        due("what changes no mode", x.fits(), 1 | 4);
    }

    private static void look() {
        CascadeBus x = Check.told("devices 3;" + APART);
        x.cycles(3);
        due("the PID, of like ones the least", x.look(0), 1);
        due("2 unlike", x.look(1), 2);
        x.note(1, 8, 2);
        due("the OUTPUT", x.look(0), 2);
        due("2 unlike", x.look(1), 2);
        x.note(2, 8, 3);
        due("all alike: the least", x.look(0), 0);
        due("1", x.look(1), 1);
        noSuch("what 2", () -> x.look(2));
        noSuch("what -1", () -> x.look(-1));
        due("without BLOCKS", new CascadeBus().look(0), -1);
    }

    /** The bits of a draw, one behind another, by the document's words. */
    private static int[] draws(int seed, int... of) {
        int[] drawn = new int[of.length];
        int s = seed;
        for (int k = 0; k < of.length; k++) {
            s = s * 1103515245 + 12345;
            drawn[k] = ((s >> 16) & 0x7fff) % of[k];
        }
        return drawn;
    }

    private static int seedFor(int act, int second, int of) {
        for (int seed = 0; seed < 100000; seed++) {
            int[] d = draws(seed, 6, of);
            if (d[0] == act && d[1] == second) {
                return seed;
            }
        }
        throw new IllegalStateException("no such seed");
    }

    private static void years() {
        CascadeBus x = Check.told("devices 3;over 0;block 0 1 input 0;");
        x.target(0, 1);
        x.hand(0, 77);
        due("0 times", x.years(5, 0, 0), 77);
        due("DEVICES", x.years(5, 0, 1), 7);
        due("SCHEDULERS", x.years(5, 0, 2), 0);
        int off = seedFor(3, 1, 3);
        due("DEVICE 1 goes OFF", x.years(off, 1, 1), 5);
        x.power(1, false);
        due("or ON", x.years(off, 1, 1), 7);
        int hand = seedFor(5, 0, 1);
        due("by HAND", x.years(hand, 1, 0), draws(hand, 6, 1, 1001)[2]);
        x.power(0, false);
        due("a SCHEDULER comes", x.years(seedFor(0, 0, 5), 1, 2), 1);
        due("or not", x.years(off, 1, 2), 0);
        due("all stays", x.count(4), -1);
        due("no ACTS", x.count(10), 4);
        due("no STATUS", x.count(14), 0);
        illegal("31", () -> x.years(1, 31, 0));
        illegal("-1", () -> x.years(1, -1, 0));
        noSuch("what 3", () -> x.years(1, 31, 3));
        noSuch("what -1", () -> x.years(1, 0, -1));
        int twice = noBlockSeed();
        due("without BLOCKS nothing is drawn behind 2, 5", new CascadeBus().years(twice, 2, 1), 2);
    }

    /** First 2 or 5, of which nothing comes, then at once 3, and DEVICE 0 of two. */
    private static int noBlockSeed() {
        for (int seed = 0; seed < 100000; seed++) {
            int[] d = draws(seed, 6, 6, 2);
            if ((d[0] == 2 || d[0] == 5) && d[1] == 3 && d[2] == 0) {
                return seed;
            }
        }
        throw new IllegalStateException("no such seed");
    }

    private static void image() {
        CascadeBus x = steered();
        due("none", x.restore() ? 1 : 0, 0);
        x.note(0, 1, 2);
        x.target(9, 9);
        x.image();
        x.cycles(5);
        x.broken(0, true);
        x.power(0, false);
        x.forget();
        x.target(9, 9);
        x.note(9, 9, 9);
        x.feed(0, 0, 0, 0, 0);
        due("restored", x.restore() ? 1 : 0, 1);
        int[] counts = {1, 3, 2, 1, 0, 0, 1};
        for (int what = 0; what < counts.length; what++) {
            due("count " + what, x.count(what), counts[what]);
        }
        due("sound", x.count(9), 0);
        due("ACTS", x.count(10), 2);
        due("NOTED", x.count(11), 1);
        due("the tape is none of it", x.count(12), 20);
        due("STATUS 1", x.count(14), 1);
        due("STATUS 2", x.count(15), 0);
        due("SETPOINT", x.block(1, 7), 200);
        due("ACTS are as they were", x.undo(), 1);
        due("SETPOINT", x.block(1, 7), 0);
        due("again", x.restore() ? 1 : 0, 1);
        due("ACTS", x.count(10), 2);
        x.undo();
        due("the oldest ACT", x.undo(), 0);
        due("ACTUAL as it was ahead of it", x.block(0, 6), 1);
        due("TIME", x.count(3), 0);
        x.image();
        x.cycles(1);
        x.restore();
        due("in place of another one", x.count(10), 0);
        due("TIME", x.count(3), 0);
        x.cycles(1);
        x.image();
        for (int k = 0; k < 45; k++) {
            x.cycles(1);
        }
        x.restore();
        due("behind more ACTS than are kept", x.count(10), 1);
        due("its ACT is undone", x.undo(), 0);
        due("TIME", x.count(3), 0);
    }
}
