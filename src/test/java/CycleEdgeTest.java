/** Each sentence that names an edge about the laid CYCLE and how CYCLES go by: the terms' part 2. */
public final class CycleEdgeTest {
    private static final int NONE = CascadeBus.NONE;

    /** An outer PID 1, an inner one 2 and an OUTPUT 3, all of the INPUT 0, whose OUTs change only by following. */
    private static final String CASCADE = "block 0 1 input 0;block 0 1 pid 0 0 man back;block 0 1 pid 0 0 man back;"
            + "block 0 1 output 0 5;link 0 1 value;link 0 2 value;link 1 2 set;link 2 3 set;";

    /** INPUT 0 and PICK 1 in two DEVICES that aren't the SCHEDULER. */
    private static final String ACROSS = "devices 3;block 1 1 input 0;block 2 1 pick most;link 0 1 value;";

    private CycleEdgeTest() {
    }

    public static void main(String[] args) {
        taken();
        slots();
        starts();
        waysBackSlots();
        length();
        atFirst();
        sensorsMove();
        actuators();
        scheduler();
        offBlocksRest();
        waysBackAtLast();
        linkWithin();
        linkAcross();
        linkAge();
        everyLinkOfAFullBus();
        valuesWithin();
        wayBack();
        wayBackAge();
        toWhatIsOff();
        noLink();
        actualByTarget();
        pidFalls();
        setGood();
        stays();
        input();
        pick();
        outputMoves();
        outputLimit();
        pidFollows();
        pidError();
        pidSteps();
        pidHeld();
        pidStaysOut();
        pidLimit();
        Check.end("CycleEdgeTest");
    }

    private static void due(String what, long got, long want) {
        Check.due(what, got, want);
    }

    private static int[] turns(CascadeBus x, int what) {
        int[] all = new int[x.count(1)];
        for (int b = 0; b < all.length; b++) {
            all[b] = x.block(b, what);
        }
        return all;
    }

    private static int[] linksAll(CascadeBus x, int what) {
        int[] all = new int[x.count(2)];
        for (int l = 0; l < all.length; l++) {
            all[l] = x.link(l, what);
        }
        return all;
    }

    private static void taken() {
        Check.says("BLOCKS are taken each time the least of which all LINKS come from BLOCKS that are taken.");
        CascadeBus x = Check.told("block 0 1 pick most;block 0 1 input 0;block 0 1 pick most;block 0 1 input 0;"
                + "link 3 0 value;link 0 2 value;");
        Check.dueAll("the how manyth", turns(x, 13), 2, 0, 3, 1);
        CascadeBus y = Check.told("block 0 1 pick most;block 0 1 input 0;block 0 1 input 0;"
                + "link 1 0 value;link 2 0 other;");
        Check.dueAll("all LINKS, not one of them", turns(y, 13), 2, 0, 1);
        CascadeBus z = Check.told("block 0 1 input 0;".repeat(10));
        Check.dueAll("without LINKS by numbers", turns(z, 13), 0, 1, 2, 3, 4, 5, 6, 7, 8, 9);
        StringBuilder down = new StringBuilder("block 0 1 pick most;".repeat(10));
        for (int k = 0; k < 9; k++) {
            down.append("link ").append(k + 1).append(' ').append(k).append(" value;");
        }
        Check.dueAll("against numbers", turns(Check.told(down.toString()), 13), 9, 8, 7, 6, 5, 4, 3, 2, 1, 0);
    }

    private static void slots() {
        Check.says("First its LINKS from other DEVICES, by numbers, each get a SLOT (of 1): the least that is not below"
                + " the END of where it comes from, and that none has");
        CascadeBus x = Check.told("devices 4;block 0 1 input 0;block 1 3 input 0;block 2 1 pick most;"
                + "block 3 1 pick most;link 1 2 value;link 0 2 other;link 0 3 value;link 1 3 other;");
        // 3 of the END 3, 1 of the END 1; then 2 between them, and 3 is had already
        Check.dueAll("SLOTS", linksAll(x, 3), 3, 1, 2, 4);
        Check.dueAll("START", turns(x, 3), 0, 0, 4, 5);
        Check.dueAll("END", turns(x, 4), 1, 3, 5, 6);
        due("SLOTS that are used", x.count(8), 4);
        due("LENGTH", x.count(7), 6);
        CascadeBus y = Check.told("devices 3;block 0 1 input 0;block 1 1 input 0;block 2 1 pick most;"
                + "link 1 2 other;link 0 2 value;");
        Check.dueAll("by numbers of LINKS, not of BLOCKS", linksAll(y, 3), 1, 2);
        CascadeBus z = Check.told("block 0 1 input 0;block 0 1 pick most;link 0 1 value;");
        Check.dueAll("within a DEVICE none", linksAll(z, 3), NONE);
        due("SLOTS that are used", z.count(8), 0);
        StringBuilder many = new StringBuilder("block 0 1 input 0;" + "block 1 1 pick most;".repeat(6));
        for (int k = 1; k <= 6; k++) {
            many.append("link 0 ").append(k).append(" value;link 0 ").append(k).append(" other;");
        }
        CascadeBus full = Check.told(many.toString());
        Check.dueAll("twelve from one END", linksAll(full, 3), 1, 2, 3, 4, 5, 6, 7, 8, 9, 10, 11, 12);
        Check.dueAll("START", turns(full, 3), 0, 3, 5, 7, 9, 11, 13);
        due("SLOTS that are used", full.count(8), 12);
    }

    private static void starts() {
        Check.says("then its START: the END of the BLOCK of its DEVICE that was taken last (0 without), or more, if one"
                + " of its LINKS ends later (from its own DEVICE: the END of where it comes from; else its SLOT and 1)");
        CascadeBus x = Check.told("devices 3;block 0 2 input 0;block 1 7 input 0;block 0 3 input 0;");
        Check.dueAll("START", turns(x, 3), 0, 0, 2);
        Check.dueAll("END", turns(x, 4), 2, 7, 5);
        CascadeBus later = Check.told("block 0 2 input 0;block 1 1 pick most;block 1 5 input 0;link 0 1 value;");
        Check.dueAll("its SLOT and 1", turns(later, 3), 0, 3, 4);
        CascadeBus busy = Check.told("block 0 2 input 0;block 1 9 input 0;block 1 1 pick most;link 0 2 value;");
        Check.dueAll("its DEVICE is busy longer", turns(busy, 3), 0, 0, 9);
        // Taken last isn't the greatest number: 2 is taken ahead of 1.
        CascadeBus last = Check.told("block 0 1 input 0;block 0 4 pick most;block 0 9 input 0;block 0 1 pick most;"
                + "link 2 1 value;link 0 3 value;");
        Check.dueAll("the how manyth", turns(last, 13), 0, 2, 1, 3);
        Check.dueAll("START", turns(last, 3), 0, 10, 1, 14);
        CascadeBus own = Check.told("block 0 3 input 0;block 0 1 pick most;link 0 1 value;");
        Check.dueAll("from its own DEVICE", turns(own, 3), 0, 3);
    }

    private static void waysBackSlots() {
        Check.says("When all are taken, the way BACK of each SET from another DEVICE, by numbers, gets a SLOT likewise"
                + " (not below the END of the BLOCK it goes to).");
        CascadeBus x = Check.told("devices 4;block 0 1 pid 1 1 man back;block 1 1 pid 1 1 man back;"
                + "block 2 2 output 0 1;block 3 1 output 0 1;link 1 2 set;link 0 3 set;");
        Check.dueAll("SLOTS", linksAll(x, 3), 1, 2);
        Check.dueAll("END", turns(x, 4), 1, 1, 4, 4);
        Check.dueAll("ways BACK", linksAll(x, 9), 4, 5);
        due("SLOTS that are used", x.count(8), 4);
        due("LENGTH", x.count(7), 6);
        CascadeBus y = Check.told("devices 4;block 0 1 pid 1 1 man back;block 1 1 pid 1 1 man back;"
                + "block 2 2 output 0 1;block 3 1 output 0 1;link 0 3 set;link 1 2 set;");
        // now 2 is taken ahead all the same: its LINK has SLOT 1
        Check.dueAll("SLOTS", linksAll(y, 3), 2, 1);
        Check.dueAll("ways BACK by numbers", linksAll(y, 9), 4, 5);
        CascadeBus late = Check.told("block 0 1 pid 1 1 man back;block 1 1 output 0 1;block 0 9 input 0;"
                + "block 1 1 pick most;link 0 1 set;link 2 3 value;");
        // SLOT 1, END 3; the way BACK comes when all are taken, and 3 is free still
        Check.dueAll("SLOTS", linksAll(late, 3), 1, 10);
        Check.dueAll("ways BACK", linksAll(late, 9), 3, NONE);
        CascadeBus had = Check.told("devices 3;block 0 1 pid 1 1 man back;block 1 1 output 0 1;block 2 3 input 0;"
                + "block 1 1 pick most;link 0 1 set;link 2 3 value;");
        Check.dueAll("SLOTS", linksAll(had, 3), 1, 3);
        Check.dueAll("a LINK has 3", linksAll(had, 9), 4, NONE);
        CascadeBus crowded = Check.told("devices 5;block 3 1 pid 1 1 man back;block 4 1 pid 1 1 man back;"
                + "block 2 1 pid 1 1 man back;"
                + "block 2 1 pid 1 1 man back;block 1 1 pid 1 1 man back;block 1 1 pid 1 1 man back;"
                + "block 2 1 pid 1 1 man back;block 4 1 output 0 1;block 2 1 input 0;"
                + "block 3 1 pid 1 1 man back;link 5 6 set;link 1 0 set;link 9 1 set;link 2 7 set;"
                + "link 3 5 value;link 0 2 set;link 5 9 value;link 5 6 value;link 3 5 set;link 5 2 value;"
                + "link 6 9 set;link 3 0 value;");
        // the way BACK of LINK 8 wants 4, and 4 to 17 are had
        Check.dueAll("SLOTS", linksAll(crowded, 3), 4, 11, 9, 15, 1, 13, 6, 5, 2, 8, 7, 3);
        Check.dueAll("ways BACK", linksAll(crowded, 9), 10, 14, 12, 17, NONE, 16, NONE, NONE, 18, NONE, 19, NONE);
        due("SLOTS that are used", crowded.count(8), 19);
        due("LENGTH", crowded.count(7), 20);
        CascadeBus within = Check.told(CASCADE);
        Check.dueAll("within a DEVICE none", linksAll(within, 9), NONE, NONE, NONE, NONE);
    }

    private static void length() {
        Check.says("LENGTH: the greatest END (of a SLOT: it and 1).");
        due("without BLOCKS", Check.told("").count(7), 0);
        due("one BLOCK", Check.told("block 0 9 input 0;").count(7), 9);
        due("the greatest, not the last", Check.told("block 0 9 input 0;block 1 1 input 0;").count(7), 9);
        due("ten of 9", Check.told("block 0 9 input 0;".repeat(10)).count(7), 90);
        due("a way BACK's SLOT", Check.told("block 0 1 pid 1 1 man back;block 1 1 output 0 1;link 0 1 set;").count(7), 4);
    }

    private static void atFirst() {
        Check.says("At first: TARGETS 2 (3 of what a SET goes to), ACTUAL 1, SETPOINT, OUT, LAST 0, GOOD, no LIMIT,"
                + " no ACK; what came by LINKS, ways BACK is BAD, of 0, AGE 0, ASK");
        CascadeBus x = Check.told(CASCADE + "block 1 1 pick most;block 1 1 output 0 1;");
        Check.dueAll("TARGET", turns(x, 5), 2, 2, 3, 3, 2, 2);
        Check.dueAll("ACTUAL", turns(x, 6), 1, 1, 1, 1, 1, 1);
        Check.dueAll("GOOD", turns(x, 10), 1, 1, 1, 1, 1, 1);
        for (int what : new int[] {7, 8, 9, 11, 12}) {
            Check.dueAll("block what " + what, turns(x, what), 0, 0, 0, 0, 0, 0);
        }
        for (int what = 4; what <= 8; what++) {
            Check.dueAll("link what " + what, linksAll(x, what), 0, 0, 0, 0);
        }
        for (int what : new int[] {10, 11, 12, 14}) {
            Check.dueAll("way BACK, what " + what, linksAll(x, what), NONE, NONE, 0, 0);
        }
        Check.dueAll("ASK", linksAll(x, 13), NONE, NONE, 1, 1);
        CascadeBus sets = Check.told("block 0 1 pid 1 1 man back;".repeat(10) + "link 0 1 set;link 1 2 set;"
                + "link 2 3 set;link 3 4 set;link 4 5 set;link 5 6 set;link 6 7 set;link 7 8 set;link 8 9 set;");
        Check.dueAll("ASK of all", linksAll(sets, 13), 1, 1, 1, 1, 1, 1, 1, 1, 1);
        Check.dueAll("TARGET of all", turns(sets, 5), 2, 3, 3, 3, 3, 3, 3, 3, 3, 3);
        Check.says("SENSORS 0, sound; all DEVICES ON; the SCHEDULER is DEVICE 0.");
        for (int many = 1; many <= 5; many++) {
            CascadeBus y = Check.told("devices " + many + ";plant 0 0 1 1;");
            due("SENSOR", y.plant(0, 0), 0);
            due("BROKEN", y.count(9), 0);
            due("ON", y.count(6), (1 << many) - 1);
            due("SCHEDULER", y.count(4), 0);
            due("WAIT", y.count(5), 0);
        }
    }

    /** An OUTPUT that is 1, so that its OUT is as told, and a SENSOR on it. */
    private static CascadeBus plantOf(int gain, int lag) {
        CascadeBus x = Check.told("block 0 1 output 0 1;plant 0 0 " + gain + " " + lag + ";");
        x.target(0, 1);
        return x;
    }

    private static int sensorBehind(CascadeBus x, int out) {
        x.hand(0, out);
        x.cycles(1);
        return x.plant(0, 0);
    }

    private static void sensorsMove() {
        Check.says("it is more by (OUT of its ACTUATOR times GAIN by 100 (cut), less it) by LAG (cut to 0),"
                + " put to 0 .. 1000.");
        CascadeBus gains = plantOf(33, 1);
        due("32.67 is cut", sensorBehind(gains, 99), 32);
        due("0.99 is cut", sensorBehind(gains, 3), 0);
        due("330", sensorBehind(gains, 1000), 330);
        CascadeBus lags = plantOf(100, 10);
        due("0.9 is cut", sensorBehind(lags, 9), 0);
        due("10 by 10", sensorBehind(lags, 10), 1);
        due("200 less 1 by 10", sensorBehind(lags, 200), 20);
        due("-0.9 is cut to 0", sensorBehind(lags, 11), 20);
        due("-10 by 10", sensorBehind(lags, 10), 19);
        due("-1.9 is cut to -1", sensorBehind(lags, 0), 18);
        CascadeBus high = plantOf(300, 1);
        due("3000 is put to 1000", sensorBehind(high, 1000), 1000);
        due("1002, too", sensorBehind(high, 334), 1000);
        due("999", sensorBehind(high, 333), 999);
        due("and to 0 at once", sensorBehind(high, 0), 0);
        CascadeBus two = plantOf(300, 2);
        due("1500 is put to 1000", sensorBehind(two, 1000), 1000);
        due("and it stays", sensorBehind(two, 1000), 1000);
        CascadeBus slow = plantOf(300, 50);
        due("3000 by 50", sensorBehind(slow, 1000), 60);
        due("2940 by 50", sensorBehind(slow, 1000), 118);
        CascadeBus nothing = plantOf(0, 1);
        due("GAIN 0", sensorBehind(nothing, 1000), 0);
        CascadeBus alone = Check.told("block 0 1 output 0 1;plant 1 0 100 1;");
        alone.hand(0, 70);
        alone.cycles(1);
        due("a SENSOR without PLANT", alone.plant(0, 0), 0);
        due("by the OUT of the CYCLE ahead", alone.plant(1, 0), 70);
        CascadeBus broken = Check.told("block 0 1 output 0 1;block 0 1 input 0;plant 0 0 100 1;");
        broken.hand(0, 70);
        broken.broken(0, true);
        broken.cycles(1);
        due("a BROKEN one moves, too", broken.plant(0, 0), 70);
        due("an INPUT has what is moved in this CYCLE", broken.block(1, 8), 70);
    }

    private static void actuators() {
        Check.says("An ACTUATOR has the OUT of the last BLOCK (by numbers) that goes to it (0 without).");
        CascadeBus x = Check.told("block 0 1 output 3 1;block 1 1 output 3 1;block 0 1 output 2 1;block 0 1 input 1;"
                + "plant 0 3 100 1;plant 1 1 100 1;");
        x.hand(0, 11);
        x.hand(1, 22);
        x.hand(2, 33);
        x.hand(3, 44);
        int[] outs = {x.plant(0, 2), x.plant(1, 2), x.plant(2, 2), x.plant(3, 2)};
        Check.dueAll("OUT", outs, 0, 0, 33, 22);
        x.power(1, false);
        x.target(1, 0);
        x.cycles(1);
        due("also one that is OFF", x.plant(3, 2), 22);
        due("moves the SENSOR", x.plant(0, 0), 22);
        due("without", x.plant(1, 0), 0);
    }

    private static void scheduler() {
        Check.says("(b) If there is no SCHEDULER: if WAIT is 0, the least DEVICE that is ON is it"
                + " (none: there still is none), else WAIT is 1 less.");
        for (int over = 0; over <= 9; over++) {
            CascadeBus x = Check.told("devices 3;over " + over + ";");
            x.power(0, false);
            due("none at once", x.count(4), NONE);
            due("WAIT is OVER", x.count(5), over);
            for (int k = 1; k <= over; k++) {
                x.cycles(1);
                due("still none", x.count(4), NONE);
                due("WAIT is 1 less", x.count(5), over - k);
            }
            x.cycles(1);
            due("the next one", x.count(4), 1);
            due("no WAIT", x.count(5), 0);
        }
        CascadeBus x = Check.told("devices 5;");
        x.power(3, false);
        x.power(1, false);
        due("another one's going changes nothing", x.count(4), 0);
        x.power(0, false);
        x.cycles(3);
        due("the least that is ON", x.count(4), 2);
        x.power(0, true);
        x.cycles(1);
        due("one that is less and ON again doesn't take it", x.count(4), 2);
        x.power(2, false);
        due("WAIT anew", x.count(5), 2);
        x.cycles(1);
        x.power(4, false);
        due("another one's going doesn't make it longer", x.count(5), 1);
        x.cycles(2);
        due("0 again", x.count(4), 0);
        CascadeBus dark = Check.told("over 1;");
        dark.power(0, false);
        dark.power(1, false);
        dark.cycles(30);
        due("none is ON: still none", dark.count(4), NONE);
        due("WAIT stays 0", dark.count(5), 0);
        dark.power(1, true);
        due("going ON doesn't make one", dark.count(4), NONE);
        dark.cycles(1);
        due("the CYCLE does", dark.count(4), 1);
        CascadeBus back = Check.told("over 3;");
        back.power(0, false);
        back.power(0, true);
        due("ON again, but none", back.count(4), NONE);
        back.cycles(3);
        due("it waits as others do", back.count(4), NONE);
        back.cycles(1);
        due("and is it again", back.count(4), 0);
    }

    private static void offBlocksRest() {
        Check.says("(c) BLOCK by BLOCK as taken, if its DEVICE is ON: all its LINKS come; it RUNS.");
        CascadeBus x = Check.told("block 0 1 output 0 5;block 1 1 output 1 5;");
        x.cycles(1);
        x.hand(0, 100);
        x.hand(1, 100);
        x.power(1, false);
        x.target(1, 0);
        x.cycles(3);
        due("ON: it goes on", x.block(0, 8), 15);
        due("OFF: OUT stays", x.block(1, 8), 0);
        due("ACTUAL stays", x.block(1, 6), 2);
        due("GOOD stays", x.block(1, 10), 1);
        x.power(1, true);
        x.cycles(1);
        due("ON again: it RUNS", x.block(1, 6), 0);
        CascadeBus order = Check.told("block 0 1 pick most;block 0 1 pick most;block 0 1 input 0;"
                + "link 1 0 value;link 2 1 value;");
        order.hand(2, 9);
        order.target(2, 1);
        order.cycles(1);
        due("as taken: within one CYCLE to the end", order.block(0, 8), 9);
    }

    private static void waysBackAtLast() {
        Check.says("(d) All ways BACK come.");
        CascadeBus x = Check.told(CASCADE);
        x.cycles(1);
        due("what the OUTPUT asks is seen behind its run", x.link(3, 13), 1);
        due("but the PID has no ACK yet", x.block(2, 12), 0);
        x.cycles(1);
        due("a CYCLE later it has", x.block(2, 12), 1);
        due("the OUTPUT is 3 in the same CYCLE", x.block(3, 6), 3);
        due("and asks no more", x.link(3, 13), 0);
        Check.says("Then TIME (0 first) is 1 more.");
        CascadeBus y = Check.told("");
        due("0 first", y.count(3), 0);
        due("1 more", y.cycles(1), 1);
        due("30 more", y.cycles(30), 31);
    }

    private static void linkWithin() {
        Check.says("A LINK COMES: within a DEVICE always: what its BLOCK has now, AGE 0.");
        CascadeBus x = Check.told("devices 1;block 0 1 pid 0 0 man back;block 0 1 pick most;block 0 1 output 0 1;"
                + "link 0 1 value;link 0 2 set;over 9;old 1;");
        x.cycles(1);
        x.hand(0, 70);
        x.hand(2, 0);
        x.cycles(1);
        // it follows the OUTPUT, which is at 0, LOW
        Check.dueAll("value, GOOD, LIMIT, ACK, AGE", new int[] {x.link(0, 4), x.link(0, 5), x.link(0, 6), x.link(0, 7),
            x.link(0, 8)}, 0, 1, 1, 1, 0);
        x.target(0, 0);
        x.cycles(1);
        due("BAD comes, too", x.link(0, 5), 0);
        due("AGE 0", x.link(0, 8), 0);
        CascadeBus y = Check.told("block 1 1 input 0;block 1 1 pick most;link 0 1 value;over 9;old 1;");
        y.power(0, false);
        y.cycles(9);
        due("without SCHEDULER", y.count(4), NONE);
        due("it is GOOD", y.link(0, 5), 1);
        due("AGE 0", y.link(0, 8), 0);
    }

    private static void linkAcross() {
        Check.says("From another one if there is a SCHEDULER, and both DEVICES are ON; else it is as it was,"
                + " AGE 1 more (at most 99), and BAD if that is above OLD.");
        CascadeBus x = Check.told(ACROSS);
        x.target(0, 1);
        x.hand(0, 5);
        x.cycles(1);
        due("it came", x.link(0, 4), 5);
        x.hand(0, 7);
        x.power(0, false);
        x.cycles(2);
        due("no SCHEDULER: as it was", x.link(0, 4), 5);
        due("AGE", x.link(0, 8), 2);
        due("GOOD still", x.link(0, 5), 1);
        x.cycles(1);
        due("the CYCLE in which there is one again", x.link(0, 8), 0);
        due("what is now", x.link(0, 4), 7);
        x.power(1, false);
        x.hand(0, 9);
        x.cycles(1);
        due("where it comes from is OFF", x.link(0, 8), 1);
        due("as it was", x.link(0, 4), 7);
        x.power(1, true);
        x.power(2, false);
        x.cycles(4);
        due("where it goes to is OFF", x.link(0, 8), 5);
        x.power(2, true);
        x.cycles(1);
        due("both ON, a SCHEDULER", x.link(0, 8), 0);
        due("GOOD again", x.link(0, 5), 1);
        CascadeBus never = Check.told(ACROSS);
        never.power(0, false);
        never.cycles(1);
        due("it never came: BAD", never.link(0, 5), 0);
        due("AGE 1", never.link(0, 8), 1);
        due("of 0", never.link(0, 4), 0);
        never.cycles(2);
        due("it comes", never.link(0, 5), 1);
    }

    private static void linkAge() {
        Check.says("AGE 1 more (at most 99), and BAD if that is above OLD.");
        for (int old = 1; old <= 9; old++) {
            CascadeBus x = Check.told(ACROSS + "old " + old + ";");
            x.target(0, 1);
            x.hand(0, 5);
            x.cycles(1);
            x.power(1, false);
            x.cycles(old);
            due("AGE is OLD", x.link(0, 8), old);
            due("that isn't above it", x.link(0, 5), 1);
            due("the PICK is GOOD", x.block(1, 10), 1);
            x.cycles(1);
            due("AGE", x.link(0, 8), old + 1);
            due("BAD", x.link(0, 5), 0);
            due("in the same CYCLE the PICK is BAD", x.block(1, 10), 0);
            due("its value is as it was", x.link(0, 4), 5);
        }
        CascadeBus y = Check.told(ACROSS);
        y.cycles(1);
        y.power(1, false);
        y.cycles(30);
        y.cycles(30);
        y.cycles(30);
        y.cycles(8);
        due("98", y.link(0, 8), 98);
        y.cycles(1);
        due("99", y.link(0, 8), 99);
        y.cycles(1);
        due("at most 99", y.link(0, 8), 99);
        y.cycles(30);
        due("at most 99", y.link(0, 8), 99);
        due("BAD still", y.link(0, 5), 0);
    }

    /** Ten BLOCKS, twelve LINKS; SETs are the first and the last one. */
    private static final String FULL = "devices 5;block 1 1 input 0;block 1 1 pid 50 20 man back;"
            + "block 2 1 pid 70 10 man back;block 3 1 output 0 30;block 2 1 input 1;block 4 1 pick most;"
            + "block 4 1 pick least;block 4 1 pid 30 30 man back;block 4 1 output 1 20;block 3 1 pick most;"
            + "link 1 2 set;link 0 1 value;link 4 2 value;link 7 9 value;link 4 5 other;link 5 6 value;link 0 6 other;"
            + "link 6 7 value;link 7 8 set;link 4 9 other;link 0 5 value;link 2 3 set;plant 0 0 90 2;plant 1 1 100 3;";

    private static void everyLinkOfAFullBus() {
        Check.says("what its BLOCK has now, AGE 0");
        CascadeBus x = Check.told(FULL);
        x.target(1, 3);
        for (int k = 1; k <= 60; k++) {
            x.cycles(1);
            for (int l = 0; l < 12; l++) {
                int from = x.link(l, 0);
                int to = x.link(l, 1);
                due("value of LINK " + l, x.link(l, 4), x.block(from, 8));
                due("GOOD of LINK " + l, x.link(l, 5), x.block(from, 10));
                due("LIMIT of LINK " + l, x.link(l, 6), x.block(from, 11));
                due("ACK of LINK " + l, x.link(l, 7), x.block(from, 12));
                due("AGE of LINK " + l, x.link(l, 8), 0);
                if (x.link(l, 2) == 2) {
                    due("value BACK of " + l, x.link(l, 10), x.block(to, x.block(to, 0) == 1 ? 7 : 8));
                    due("GOOD BACK of " + l, x.link(l, 11), x.block(to, 6) == 0 ? 0 : 1);
                    due("LIMIT BACK of " + l, x.link(l, 12), x.block(to, 11));
                    due("ASK BACK of " + l, x.link(l, 13), x.block(to, 6) == 3 ? 0 : 1);
                    due("AGE BACK of " + l, x.link(l, 14), 0);
                }
            }
            due("a PID of TARGET 3 that has no SET", x.block(1, 6), 1);
            switch (k) {
                case 3: x.target(8, 1); break;
                case 5: x.hand(8, 444); break;
                case 8: x.target(1, 2); x.cycles(1); x.hand(1, 500); x.cycles(5); x.target(1, 3); break;
                case 30: x.target(8, 3); x.target(3, 0); break;
                case 45: x.target(3, 3); x.target(7, 0); break;
                default: break;
            }
        }
    }

    private static void valuesWithin() {
        Check.says("All values are 0 to 1000.");
        java.util.Random random = new java.util.Random(1);
        for (int run = 0; run < 40; run++) {
            CascadeBus x = Check.told(FULL.replace("plant 0 0 90 2", "plant 0 0 300 1"));
            for (int k = 0; k < 40; k++) {
                x.hand(random.nextInt(10), random.nextInt(3) * 500);
                x.target(random.nextInt(10), random.nextInt(4));
                x.cycles(1 + random.nextInt(4));
                boolean within = true;
                for (int b = 0; b < 10; b++) {
                    within &= x.block(b, 7) >= 0 && x.block(b, 7) <= 1000 && x.block(b, 8) >= 0 && x.block(b, 8) <= 1000;
                    within &= Math.abs(x.block(b, 9)) <= 1000;
                }
                for (int port = 0; port < 4; port++) {
                    within &= x.plant(port, 0) >= 0 && x.plant(port, 0) <= 1000;
                }
                Check.due("SETPOINTS, OUTs, SENSORS", within, true);
            }
        }
    }

    private static int[] back(CascadeBus x, int link) {
        return new int[] {x.link(link, 10), x.link(link, 11), x.link(link, 12), x.link(link, 13), x.link(link, 14)};
    }

    private static void wayBack() {
        Check.says("A way BACK likewise: of what the BLOCK it is of tells: (SETPOINT of a PID, OUT of an OUTPUT;"
                + " GOOD, if its ACTUAL isn't 0; LIMIT as below; ASK, if its ACTUAL isn't 3).");
        CascadeBus x = Check.told(CASCADE);
        x.target(2, 2);
        x.target(3, 2);
        x.cycles(1);
        x.hand(2, 40);
        x.hand(3, 8);
        x.cycles(1);
        Check.dueAll("SETPOINT of a PID that is 2", back(x, 2), 40, 1, 1, 1, 0);
        Check.dueAll("OUT of an OUTPUT that is 2, HIGH", back(x, 3), 5, 1, 2, 1, 0);
        x.target(2, 1);
        x.target(3, 1);
        x.cycles(1);
        Check.dueAll("of a PID that is 1; what came BACK was HIGH", back(x, 2), 40, 1, 2, 1, 0);
        Check.dueAll("of an OUTPUT that is 1", back(x, 3), 5, 1, 0, 1, 0);
        x.target(2, 0);
        x.target(3, 0);
        x.cycles(1);
        Check.dueAll("of a PID that is 0", back(x, 2), 40, 0, 0, 1, 0);
        Check.dueAll("of an OUTPUT that is 0", back(x, 3), 5, 0, 0, 1, 0);
        x.target(2, 3);
        x.target(3, 3);
        x.cycles(3);
        due("the PID is 3", x.block(2, 6), 3);
        due("the OUTPUT is 3", x.block(3, 6), 3);
        due("no ASK", x.link(2, 13), 0);
        due("no ASK", x.link(3, 13), 0);
    }

    private static void wayBackAge() {
        Check.says("A way BACK likewise");
        for (int old = 1; old <= 9; old++) {
            CascadeBus x = Check.told("devices 3;old " + old + ";over 9;block 1 1 pid 0 0 man back;"
                    + "block 2 1 output 0 5;link 0 1 set;");
            x.cycles(1);
            due("it came", x.link(0, 11), 1);
            x.power(2, false);
            x.cycles(old);
            Check.dueAll("as it was, AGE is OLD", back(x, 0), 0, 1, 1, 1, old);
            x.cycles(1);
            Check.dueAll("above it: BAD", back(x, 0), 0, 0, 1, 1, old + 1);
        }
        CascadeBus y = Check.told("devices 3;over 9;block 1 1 pid 0 0 man back;block 2 1 output 0 5;link 0 1 set;");
        y.cycles(1);
        y.power(0, false);
        y.cycles(9);
        due("without SCHEDULER", y.link(0, 14), 9);
        y.cycles(1);
        due("with one", y.link(0, 14), 0);
        y.power(1, false);
        y.cycles(30);
        y.cycles(30);
        y.cycles(30);
        y.cycles(9);
        due("99", y.link(0, 14), 99);
        y.cycles(2);
        due("at most 99", y.link(0, 14), 99);
    }

    private static void toWhatIsOff() {
        Check.says("(LINKS to a DEVICE that is OFF don't come, AGE is 1 more;"
                + " ways BACK to one that is OFF likewise.)");
        CascadeBus x = Check.told("block 0 1 pid 0 0 man back;block 1 1 pid 0 0 man back;block 1 1 output 0 5;"
                + "link 0 1 set;link 1 2 set;");
        x.cycles(2);
        x.power(1, false);
        x.cycles(1);
        due("a LINK to it", x.link(0, 8), 1);
        due("a LINK within it", x.link(1, 8), 1);
        due("a way BACK within it", x.link(1, 14), 1);
        due("a way BACK from it", x.link(0, 14), 1);
        x.cycles(1);
        due("a LINK within it", x.link(1, 8), 2);
        due("a way BACK within it", x.link(1, 14), 2);
        x.power(1, true);
        x.power(0, false);
        x.cycles(3);
        due("a way BACK to what is OFF", x.link(0, 14), 5);
        due("within one that is ON it comes", x.link(1, 14), 0);
    }

    private static void noLink() {
        Check.says("To RUN: what a BLOCK has no LINK for is BAD.");
        CascadeBus x = Check.told("block 0 1 pid 100 100 auto back;block 0 1 pick most;block 0 1 output 0 5;"
                + "block 0 1 input 0;block 0 1 pid 0 0 auto back;link 3 4 value;");
        x.target(2, 3);
        x.target(4, 3);
        x.hand(1, 6);
        x.cycles(1);
        due("a PID without VALUE is 1", x.block(0, 6), 1);
        due("a PICK without any is BAD", x.block(1, 10), 0);
        due("and its OUT stays", x.block(1, 8), 6);
        due("an OUTPUT without SET is 2", x.block(2, 6), 2);
        due("a PID without SET is where it FALLS", x.block(4, 6), 2);
    }

    private static void actualByTarget() {
        Check.says("ACTUAL: TARGET 0, 1: that. INPUT, PICK: 2.");
        CascadeBus x = Check.told("block 0 1 input 0;block 0 1 pid 0 0 auto stays;block 0 1 output 0 5;"
                + "block 0 1 pick most;");
        for (int mode = 0; mode <= 1; mode++) {
            for (int b = 0; b < 4; b++) {
                x.target(b, mode);
            }
            x.cycles(1);
            Check.dueAll("ACTUAL", turns(x, 6), mode, mode, mode, mode);
            Check.dueAll("TARGET stays", turns(x, 5), mode, mode, mode, mode);
        }
        x.broken(0, true);
        x.target(0, 2);
        x.target(3, 2);
        x.cycles(1);
        due("an INPUT of a BROKEN SENSOR", x.block(0, 6), 2);
        due("a PICK of nothing", x.block(3, 6), 2);
        Check.says("TARGET 2: 2.");
        x.target(2, 2);
        x.cycles(1);
        due("an OUTPUT", x.block(2, 6), 2);
        CascadeBus y = Check.told(CASCADE);
        y.cycles(3);
        y.target(2, 2);
        y.target(3, 2);
        y.cycles(1);
        due("a PID whose SET is GOOD", y.block(2, 6), 2);
        due("an OUTPUT whose SET is GOOD", y.block(3, 6), 2);
    }

    private static void pidFalls() {
        Check.says("PID: VALUE BAD: it FALLS to 1; OUTPUT, PID of TARGET 3, SET BAD: it FALLS (an OUTPUT to 2, and comes"
                + " BACK; a PID to where it is told)");
        for (String where : new String[] {"man", "auto"}) {
            CascadeBus x = Check.told("block 0 1 input 0;block 0 1 pid 0 0 man back;block 0 1 input 1;"
                    + "block 0 1 pid 0 0 " + where + " back;block 0 1 output 0 5;"
                    + "link 0 1 value;link 2 3 value;link 1 3 set;link 3 4 set;");
            int told = where.equals("man") ? 1 : 2;
            x.cycles(2);
            due("CASCADE", x.block(3, 6), 3);
            due("CASCADE", x.block(4, 6), 3);
            x.target(1, 0);
            x.cycles(1);
            due("SET BAD: where it is told", x.block(3, 6), told);
            due("TARGET stays", x.block(3, 5), 3);
            due("the OUTPUT's SET is GOOD", x.block(4, 6), 3);
            x.broken(1, true);
            x.cycles(1);
            due("VALUE BAD, too: 1", x.block(3, 6), 1);
            x.target(1, 2);
            x.cycles(1);
            due("VALUE BAD alone: 1", x.block(3, 6), 1);
            x.target(3, 2);
            x.cycles(1);
            due("by TARGET 2, too", x.block(3, 6), 1);
            x.broken(1, false);
            x.cycles(1);
            due("it comes BACK", x.block(3, 6), 2);
            x.target(3, 0);
            x.cycles(1);
            due("the OUTPUT's SET is BAD: 2", x.block(4, 6), 2);
            due("TARGET stays", x.block(4, 5), 3);
            x.target(4, 1);
            x.cycles(1);
            due("TARGET 1 doesn't fall", x.block(4, 6), 1);
            x.target(4, 3);
            x.target(3, 3);
            x.cycles(1);
            due("the OUTPUT has asked: it comes BACK", x.block(4, 6), 3);
        }
    }

    private static void setGood() {
        Check.says("SET GOOD: 3, if ACTUAL was 3, or ACK came; else 2.");
        CascadeBus x = Check.told(CASCADE);
        x.cycles(1);
        due("no ACK yet: 2", x.block(2, 6), 2);
        due("no ACK yet: 2", x.block(3, 6), 2);
        x.cycles(1);
        due("ACK came: 3", x.block(2, 6), 3);
        due("by LINK", x.link(2, 7), 1);
        x.cycles(1);
        due("no ACK any more", x.link(2, 7), 0);
        due("ACTUAL was 3: 3", x.block(2, 6), 3);
        x.target(3, 1);
        x.cycles(1);
        x.target(3, 3);
        x.cycles(1);
        due("it asked behind 1, ACK came: 3 at once", x.block(3, 6), 3);
        x.target(3, 2);
        x.target(2, 0);
        x.cycles(1);
        x.target(3, 3);
        x.target(2, 2);
        x.cycles(1);
        due("what came BACK asks: ACK", x.block(2, 12), 1);
        due("3", x.block(3, 6), 3);
    }

    private static void stays() {
        Check.says("A PID that STAYS has where it FALLS as TARGET from then on.");
        for (String where : new String[] {"man", "auto"}) {
            int told = where.equals("man") ? 1 : 2;
            String text = "block 0 1 input 0;block 0 1 pid 0 0 man back;block 0 1 input 1;block 0 1 pid 0 0 " + where
                    + " stays;link 0 1 value;link 2 3 value;link 1 3 set;";
            CascadeBus x = Check.told(text);
            x.cycles(2);
            due("CASCADE", x.block(3, 6), 3);
            due("TARGET", x.block(3, 5), 3);
            x.target(1, 0);
            x.cycles(1);
            due("SET BAD", x.block(3, 6), told);
            due("TARGET from then on", x.block(3, 5), told);
            x.target(1, 2);
            x.cycles(3);
            due("SET GOOD again: it stays", x.block(3, 6), told);
            CascadeBus y = Check.told(text);
            y.cycles(2);
            y.broken(1, true);
            y.cycles(1);
            due("VALUE BAD: 1", y.block(3, 6), 1);
            due("TARGET 1", y.block(3, 5), 1);
            y.broken(1, false);
            y.cycles(3);
            due("VALUE GOOD again: it stays", y.block(3, 6), 1);
            y.target(3, 2);
            y.broken(1, true);
            y.cycles(1);
            due("of TARGET 2, too", y.block(3, 5), 1);
            y.undo();
            due("a TARGET by itself is undone, too", y.block(3, 5), 2);
        }
        CascadeBus z = Check.told("block 0 1 pid 0 0 man stays;block 0 1 pid 0 0 man back;");
        z.target(0, 0);
        z.cycles(1);
        due("TARGET 0 doesn't fall", z.block(0, 5), 0);
        due("what comes BACK has its TARGET", z.block(1, 5), 2);
    }

    private static void input() {
        Check.says("INPUT: by 2 OUT is its SENSOR's value, GOOD if that is sound; by 1 OUT stays, GOOD;"
                + " by 0 it stays, BAD.");
        CascadeBus x = Check.told("block 0 1 output 0 1;block 0 1 output 1 1;plant 0 0 100 1;plant 3 1 100 1;"
                + "block 0 1 input 0;block 0 1 input 3;");
        x.target(0, 1);
        x.target(1, 1);
        x.hand(0, 1000);
        x.hand(1, 20);
        x.cycles(1);
        due("its SENSOR's value", x.block(2, 8), 1000);
        due("its own one's", x.block(3, 8), 20);
        x.broken(3, true);
        x.hand(1, 30);
        x.cycles(1);
        due("BROKEN: its value all the same", x.block(3, 8), 30);
        due("BAD", x.block(3, 10), 0);
        due("another SENSOR's is GOOD", x.block(2, 10), 1);
        x.target(3, 1);
        x.hand(1, 40);
        x.cycles(1);
        due("by 1 OUT stays", x.block(3, 8), 30);
        due("GOOD, BROKEN or not", x.block(3, 10), 1);
        x.target(3, 0);
        x.cycles(1);
        due("by 0 OUT stays", x.block(3, 8), 30);
        due("BAD", x.block(3, 10), 0);
        x.broken(3, false);
        x.cycles(1);
        due("BAD, sound or not", x.block(3, 10), 0);
        due("no LIMIT of an INPUT", x.block(2, 11), 0);
    }

    private static CascadeBus picks(int value, int other) {
        CascadeBus x = Check.told("block 0 1 input 0;block 0 1 input 1;block 0 1 pick most;block 0 1 pick least;"
                + "link 0 2 value;link 1 2 other;link 0 3 value;link 1 3 other;");
        x.hand(0, value);
        x.hand(1, other);
        x.target(0, 1);
        x.target(1, 1);
        x.cycles(1);
        return x;
    }

    private static void pick() {
        Check.says("PICK: by 2 of VALUE, OTHER that are GOOD the MOST (LEAST; of like ones VALUE), GOOD; of none OUT"
                + " stays, BAD; by 1 it stays, GOOD; by 0 it stays, BAD.");
        int[][] pairs = {{3, 5}, {5, 3}, {4, 4}, {0, 1000}, {1000, 0}, {0, 0}, {1000, 1000}};
        for (int[] pair : pairs) {
            CascadeBus x = picks(pair[0], pair[1]);
            due("the MOST", x.block(2, 8), Math.max(pair[0], pair[1]));
            due("the LEAST", x.block(3, 8), Math.min(pair[0], pair[1]));
            due("GOOD", x.block(2, 10) + x.block(3, 10), 2);
            due("no LIMIT", x.block(2, 11) + x.block(3, 11), 0);
            x.target(1, 0);
            x.cycles(1);
            due("VALUE alone is GOOD: MOST", x.block(2, 8), pair[0]);
            due("VALUE alone is GOOD: LEAST", x.block(3, 8), pair[0]);
            x.target(1, 1);
            x.target(0, 0);
            x.cycles(1);
            due("OTHER alone is GOOD: MOST", x.block(2, 8), pair[1]);
            due("OTHER alone is GOOD: LEAST", x.block(3, 8), pair[1]);
            due("GOOD", x.block(2, 10) + x.block(3, 10), 2);
            x.target(1, 0);
            x.cycles(1);
            due("of none OUT stays", x.block(2, 8), pair[1]);
            due("BAD", x.block(2, 10) + x.block(3, 10), 0);
            x.target(2, 1);
            x.cycles(1);
            x.hand(2, 77);
            x.cycles(1);
            due("by 1 it stays", x.block(2, 8), 77);
            due("GOOD", x.block(2, 10), 1);
            x.target(2, 0);
            x.target(0, 1);
            x.cycles(1);
            due("by 0 it stays", x.block(2, 8), 77);
            due("BAD", x.block(2, 10), 0);
        }
    }

    private static CascadeBus outputOf(int rate) {
        CascadeBus x = Check.told("block 0 1 output 0 " + rate + ";");
        x.cycles(1);
        return x;
    }

    private static int outBehind(CascadeBus x, int setpoint) {
        x.hand(0, setpoint);
        x.cycles(1);
        return x.block(0, 8);
    }

    private static void outputMoves() {
        Check.says("OUTPUT: by 3 SETPOINT is what came by SET; by 1 it is OUT; by 2, 3 OUT goes to SETPOINT, by RATE at"
                + " most; GOOD, unless 0");
        CascadeBus x = outputOf(10);
        due("9: all of it", outBehind(x, 9), 9);
        due("10: all of it", outBehind(x, 19), 19);
        due("11: 10", outBehind(x, 30), 29);
        due("down 9", outBehind(x, 20), 20);
        due("down 10", outBehind(x, 10), 10);
        due("none", outBehind(x, 10), 10);
        due("down 9 of 10", outBehind(x, 0), 0);
        outBehind(x, 15);
        due("up to 15", outBehind(x, 15), 15);
        due("down 11: 10", outBehind(x, 4), 5);
        CascadeBus slow = outputOf(1);
        due("RATE 1", outBehind(slow, 1000), 1);
        CascadeBus fast = outputOf(1000);
        due("RATE 1000", outBehind(fast, 1000), 1000);
        due("down, too", outBehind(fast, 0), 0);
        CascadeBus modes = Check.told(CASCADE);
        modes.target(2, 1);
        modes.cycles(2);
        due("3", modes.block(3, 6), 3);
        modes.hand(2, 700);
        modes.cycles(1);
        due("by 3 what came by SET", modes.block(3, 7), 700);
        due("OUT by RATE", modes.block(3, 8), 5);
        due("GOOD", modes.block(3, 10), 1);
        modes.target(3, 2);
        modes.cycles(1);
        due("by 2 SETPOINT stays", modes.block(3, 7), 700);
        due("OUT by RATE", modes.block(3, 8), 10);
        modes.target(3, 1);
        modes.cycles(1);
        due("by 1 it is OUT", modes.block(3, 7), 10);
        due("OUT stays", modes.block(3, 8), 10);
        due("GOOD", modes.block(3, 10), 1);
        modes.target(3, 0);
        modes.cycles(1);
        due("by 0 SETPOINT stays", modes.block(3, 7), 10);
        due("OUT stays", modes.block(3, 8), 10);
        due("BAD", modes.block(3, 10), 0);
    }

    private static int limitBehind(CascadeBus x, int setpoint) {
        outBehind(x, setpoint);
        return x.block(0, 11);
    }

    private static void outputLimit() {
        Check.says("LIMIT (of its way BACK, too): HIGH if OUT is 1000 or SETPOINT above it, LOW if OUT is 0 or SETPOINT"
                + " below it, else none (HIGH ahead of LOW).");
        CascadeBus x = outputOf(10);
        due("OUT is 0", x.block(0, 11), 1);
        due("at SETPOINT 1", limitBehind(x, 1), 0);
        due("SETPOINT 1 above", limitBehind(x, 12), 2);
        due("at it", limitBehind(x, 12), 0);
        due("SETPOINT 1 below", limitBehind(x, 1), 1);
        due("at 0", limitBehind(x, 0), 1);
        CascadeBus fast = outputOf(1000);
        due("999", limitBehind(fast, 999), 0);
        due("1000", limitBehind(fast, 1000), 2);
        due("1", limitBehind(fast, 1), 0);
        due("0", limitBehind(fast, 0), 1);
        fast.hand(0, 5);
        fast.target(0, 0);
        fast.cycles(1);
        due("OUT is 0, SETPOINT above: HIGH ahead of LOW", fast.block(0, 11), 2);
        fast.target(0, 2);
        fast.cycles(1);
        fast.hand(0, 1000);
        fast.cycles(1);
        fast.hand(0, 5);
        fast.target(0, 0);
        fast.cycles(1);
        due("OUT is 1000, SETPOINT below: HIGH ahead of LOW", fast.block(0, 11), 2);
        fast.target(0, 1);
        fast.cycles(1);
        due("by 1 at 1000", fast.block(0, 11), 2);
        fast.hand(0, 6);
        fast.cycles(1);
        due("by 1 none", fast.block(0, 11), 0);
        fast.hand(0, 0);
        fast.cycles(1);
        due("by 1 at 0", fast.block(0, 11), 1);
        CascadeBus back = Check.told(CASCADE);
        back.cycles(1);
        due("of its way BACK: LOW", back.link(3, 12), 1);
        back.hand(3, 6);
        back.target(3, 2);
        back.cycles(1);
        due("of its way BACK: HIGH", back.link(3, 12), 2);
        back.cycles(1);
        due("of its way BACK: none", back.link(3, 12), 0);
    }

    private static void pidFollows() {
        Check.says("If a SET goes from it, its ACTUAL isn't 0, and what came BACK is GOOD, with ASK: it FOLLOWS: OUT is"
                + " what came BACK, ACK. Else no ACK");
        CascadeBus x = Check.told(CASCADE);
        x.target(3, 1);
        x.hand(3, 60);
        x.cycles(1);
        due("what came BACK was BAD: not yet", x.block(2, 12), 0);
        due("OUT stays", x.block(2, 8), 0);
        x.cycles(1);
        due("it FOLLOWS", x.block(2, 8), 60);
        due("ACK", x.block(2, 12), 1);
        x.target(2, 1);
        x.cycles(1);
        x.hand(2, 5);
        x.cycles(1);
        due("by 1, too", x.block(2, 8), 60);
        due("ACK", x.block(2, 12), 1);
        x.target(2, 0);
        x.hand(3, 90);
        x.cycles(1);
        due("by 0 not", x.block(2, 8), 60);
        due("no ACK", x.block(2, 12), 0);
        x.target(2, 3);
        x.cycles(1);
        due("by what it falls to, or 2, or 3", x.block(2, 8), 90);
        x.target(3, 0);
        x.cycles(1);
        x.cycles(1);
        due("BAD came BACK: no ACK", x.block(2, 12), 0);
        due("OUT stays", x.block(2, 8), 90);
        CascadeBus alone = Check.told("block 0 1 pid 0 0 man back;");
        alone.hand(0, 8);
        alone.cycles(2);
        due("no SET goes from it: none", alone.block(0, 12), 0);
        due("OUT stays", alone.block(0, 8), 8);
    }

    private static void pidError() {
        Check.says("PID: by 3 SETPOINT is what came by SET. E is SETPOINT less VALUE (as it last came).");
        CascadeBus x = Check.told(CASCADE);
        x.target(1, 1);
        x.target(3, 1);
        x.target(0, 1);
        x.cycles(2);
        x.hand(1, 600);
        x.hand(0, 250);
        x.cycles(1);
        due("by 3 what came by SET", x.block(2, 7), 600);
        due("E", x.block(2, 9), 350);
        x.target(2, 2);
        x.hand(1, 900);
        x.cycles(1);
        due("by 2 it stays", x.block(2, 7), 600);
        x.target(2, 1);
        x.hand(0, 1000);
        x.cycles(1);
        due("by 1 it stays", x.block(2, 7), 600);
        due("E below 0", x.block(2, 9), -400);
        x.target(2, 0);
        x.cycles(1);
        due("by 0 it stays", x.block(2, 7), 600);
        CascadeBus alone = Check.told("block 0 1 pid 1 1 man back;");
        alone.cycles(1);
        due("without VALUE", alone.block(0, 9), 0);
        CascadeBus old = Check.told("devices 3;old 1;block 1 1 input 0;block 2 1 pid 0 0 man back;link 0 1 value;");
        old.target(0, 1);
        old.hand(0, 70);
        old.cycles(1);
        old.power(1, false);
        old.hand(0, 90);
        old.cycles(5);
        due("BAD, too old", old.block(1, 6), 1);
        due("as it last came", old.block(1, 9), -70);
        old.power(1, true);
        old.target(0, 0);
        old.cycles(1);
        due("BAD, but it came", old.block(1, 9), -90);
    }

    /** INPUT 0 that is 1, and a PID 1 without SET, whose OUT is 500 and its SETPOINT, VALUE, LAST 0. */
    private static CascadeBus steps(int gain, int reset) {
        CascadeBus x = Check.told("block 0 1 input 0;block 0 1 pid " + gain + " " + reset + " man back;link 0 1 value;");
        x.target(0, 1);
        x.hand(1, 500);
        x.cycles(1);
        due("ACTUAL 2", x.block(1, 6), 2);
        due("OUT", x.block(1, 8), 500);
        return x;
    }

    private static int outBy(CascadeBus x, int setpoint, int value) {
        x.hand(1, setpoint);
        x.hand(0, value);
        x.cycles(1);
        return x.block(1, 8);
    }

    private static void pidSteps() {
        Check.says("D is GAIN times (E less LAST) by 100 (cut), and RESET times E by 100 (cut)");
        CascadeBus gain = steps(50, 0);
        due("0.5 is cut", outBy(gain, 1, 0), 500);
        due("1.5 is cut", outBy(gain, 4, 0), 501);
        due("-0.5 is cut to 0", outBy(gain, 3, 0), 501);
        due("-1.5 is cut to -1", outBy(gain, 0, 0), 500);
        due("-0.5 by VALUE", outBy(gain, 0, 1), 500);
        due("LAST is E, below 0, too", gain.block(1, 9), -1);
        CascadeBus reset = steps(0, 50);
        due("0.5 is cut", outBy(reset, 1, 0), 500);
        due("1.5 is cut", outBy(reset, 3, 0), 501);
        due("each CYCLE again", outBy(reset, 3, 0), 502);
        due("-0.5 is cut to 0", outBy(reset, 0, 1), 502);
        due("-1.5 is cut to -1", outBy(reset, 0, 3), 501);
        due("9.9 is cut", outBy(steps(0, 10), 99, 0), 509);
        due("10", outBy(steps(0, 10), 100, 0), 510);
        due("-9.9 is cut", outBy(steps(0, 10), 0, 99), 491);
        due("9.9 by GAIN is cut", outBy(steps(10, 0), 99, 0), 509);
        due("-9.9 by GAIN is cut", outBy(steps(10, 0), 0, 99), 491);
        CascadeBus both = steps(50, 50);
        due("0.5 and 0.5, each cut", outBy(both, 1, 0), 500);
        due("-0.5 and 0, each cut", outBy(both, 0, 0), 500);
        CascadeBus against = steps(150, 50);
        due("1.5 and 0.5", outBy(against, 1, 0), 501);
        due("-3 and -0.5", outBy(against, 0, 1), 498);
        due("none by GAIN 0, RESET 0", outBy(steps(0, 0), 1000, 0), 500);
        Check.says("OUT is D more, put to 0 .. 1000.");
        CascadeBus far = steps(100, 0);
        due("1000", outBy(far, 500, 0), 1000);
        due("1001 is put to 1000", outBy(far, 501, 0), 1000);
        due("999", outBy(far, 500, 0), 999);
        due("down", outBy(far, 0, 0), 499);
        due("0", outBy(far, 0, 499), 0);
        due("-1 is put to 0", outBy(far, 0, 500), 0);
        due("1", outBy(far, 0, 499), 1);
        due("the most: 3000 and 1000", outBy(steps(300, 100), 1000, 0), 1000);
        due("the least: -3000 and -1000", outBy(steps(300, 100), 0, 1000), 0);
        Check.says("LAST is E, unless ACTUAL is 0.");
        CascadeBus last = steps(100, 0);
        outBy(last, 40, 10);
        due("by 2", last.block(1, 9), 30);
        last.target(1, 1);
        last.hand(0, 15);
        last.cycles(1);
        due("by 1", last.block(1, 9), 25);
        last.target(1, 0);
        last.hand(0, 16);
        last.cycles(1);
        due("by 0 it stays", last.block(1, 9), 25);
        due("BAD by 0", last.block(1, 10), 0);
        last.target(1, 2);
        last.cycles(1);
        due("less what stayed: -1", last.block(1, 8), 529);
        last.target(0, 0);
        last.cycles(1);
        due("VALUE as it last came", last.block(1, 9), 24);
        due("1 by that", last.block(1, 6), 1);
        due("GOOD by 1", last.block(1, 10), 1);
    }

    private static int outHeld(CascadeBus x, int setpoint) {
        x.hand(1, setpoint);
        x.cycles(1);
        return x.block(1, 8);
    }

    private static void pidHeld() {
        Check.says("none of it, if it is above 0 and what came BACK has LIMIT HIGH, or below 0 and that is LOW");
        CascadeBus x = Check.told("block 0 1 input 0;block 0 1 pid 100 0 man back;block 0 1 output 0 1;"
                + "link 0 1 value;link 1 2 set;");
        x.cycles(2);
        due("LOW came BACK", x.link(1, 12), 1);
        due("above 0, LOW: it goes", outHeld(x, 50), 50);
        due("HIGH came BACK", x.link(1, 12), 2);
        due("above 0, HIGH: none of it", outHeld(x, 60), 50);
        due("LAST is E all the same", x.block(1, 9), 60);
        due("1 above 0, HIGH: none", outHeld(x, 61), 50);
        due("below 0, HIGH: it goes", outHeld(x, 40), 29);
        x.cycles(11);
        due("the OUTPUT", x.block(2, 8), 15);
        due("below 0, HIGH: it goes", outHeld(x, 12), 1);
        due("LOW came BACK", x.link(1, 12), 1);
        due("1 below 0, LOW: none", outHeld(x, 11), 1);
        due("above 0, LOW: it goes", outHeld(x, 13), 3);
        CascadeBus sum = Check.told("block 0 1 input 0;block 0 1 pid 100 100 man back;block 0 1 output 0 1;"
                + "link 0 1 value;link 1 2 set;");
        sum.cycles(2);
        due("50 and 50", outHeld(sum, 50), 100);
        due("-20 and 30: above 0, HIGH: none of both", outHeld(sum, 30), 100);
        due("-30 and 0: below 0", outHeld(sum, 0), 70);
    }

    private static void pidStaysOut() {
        Check.says("and by 2, 3, if no SET goes from it or what came BACK is GOOD");
        CascadeBus x = Check.told("devices 3;block 1 1 input 0;block 1 1 pid 100 0 man back;block 2 1 output 0 1000;"
                + "link 0 1 value;link 1 2 set;old 1;");
        x.cycles(2);
        due("it goes", outHeld(x, 50), 50);
        x.power(2, false);
        due("as it came, GOOD still", outHeld(x, 60), 60);
        due("BAD came BACK only now", outHeld(x, 70), 70);
        due("BAD: OUT stays", outHeld(x, 80), 70);
        due("LAST is E all the same", x.block(1, 9), 80);
        x.target(1, 1);
        x.cycles(1);
        x.hand(1, 5);
        x.hand(1, 6);
        x.cycles(1);
        due("by 1 it stays as told", x.block(1, 8), 6);
    }

    private static void pidLimit() {
        Check.says("LIMIT: what came BACK, if it is GOOD and isn't none; else HIGH if OUT is 1000, LOW if 0, else none;"
                + " of its own way BACK, too.");
        CascadeBus alone = steps(100, 0);
        due("500: none", alone.block(1, 11), 0);
        outBy(alone, 499, 0);
        due("999: none", alone.block(1, 11), 0);
        outBy(alone, 500, 0);
        due("1000: HIGH", alone.block(1, 11), 2);
        outBy(alone, 0, 499);
        due("1: none", alone.block(1, 11), 0);
        outBy(alone, 0, 500);
        due("0: LOW", alone.block(1, 11), 1);
        CascadeBus fast = Check.told("block 0 1 input 0;block 0 1 pid 100 0 man back;block 0 1 output 0 1000;"
                + "link 0 1 value;link 1 2 set;");
        fast.cycles(2);
        outHeld(fast, 500);
        due("none came BACK", fast.link(1, 12), 0);
        due("500", outHeld(fast, 500), 500);
        due("none", fast.block(1, 11), 0);
        due("1000", outHeld(fast, 1000), 1000);
        due("none came BACK ahead of it: HIGH by OUT", fast.block(1, 11), 2);
        outHeld(fast, 300);
        due("HIGH came BACK ahead of it: HIGH, though OUT is 300", fast.block(1, 11), 2);
        due("0", outHeld(fast, 0), 0);
        due("none came BACK ahead of it: LOW by OUT", fast.block(1, 11), 1);
        CascadeBus bad = Check.told("block 0 1 input 0;block 0 1 pid 100 0 man back;block 0 1 output 0 1;"
                + "link 0 1 value;link 1 2 set;");
        bad.cycles(2);
        outHeld(bad, 500);
        bad.target(2, 0);
        bad.cycles(2);
        due("HIGH came BACK, but BAD", bad.link(1, 11) * 10 + bad.link(1, 12), 2);
        due("none, by OUT", bad.block(1, 11), 0);
        CascadeBus x = Check.told("block 0 1 input 0;block 0 1 pid 0 0 man back;block 0 1 pid 100 0 man back;"
                + "block 0 1 output 0 1;link 0 1 value;link 0 2 value;link 1 2 set;link 2 3 set;");
        x.target(1, 1);
        x.cycles(2);
        x.hand(1, 1000);
        x.cycles(1);
        due("D by what came by SET", x.block(2, 8), 1000);
        due("LOW came BACK ahead of it: LOW, though OUT is 1000", x.block(2, 11), 1);
        x.cycles(1);
        due("HIGH came BACK", x.block(2, 11), 2);
        due("of its own way BACK", x.link(2, 12), 2);
        x.hand(1, 0);
        x.cycles(1);
        due("OUT is 0", x.block(2, 8), 0);
        due("HIGH came BACK, though OUT is 0", x.block(2, 11), 2);
        x.target(3, 0);
        x.cycles(2);
        due("BAD came BACK", x.link(3, 11), 0);
        due("then by OUT: LOW", x.block(2, 11), 1);
        due("of its own way BACK", x.link(2, 12), 1);
    }
}
