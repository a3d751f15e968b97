import java.util.NoSuchElementException;

/** Blocks of control on a bus of devices; ../shared/DOC.md has the terms (in capitals here) and the promises. */
public final class CascadeBus {
    public static final int NONE = -1;

    private static final int TAPE_BYTES = 900;
    private static final int FEED_BYTES = 20;
    private static final int MOST_DEVICES = 5;
    private static final int MOST_BLOCKS = 10;
    private static final int MOST_LINKS = 12;
    private static final int PORTS = 4;
    private static final int TOP = 1000;
    private static final int MOST_ACTS = 40;
    private static final int MOST_NOTED = 6;
    private static final int MOST_CYCLES = 30;
    private static final int LAST_TIME = 2000;
    private static final int FAR_CYCLES = 60;
    private static final int RIDE_CYCLES = 20;
    private static final int NOTE_CYCLES = 20;
    private static final int LOOK_CYCLES = 8;
    private static final int MOST_OLD = 9;
    private static final int MOST_GAIN = 300;
    private static final int MOST_SLACK = 50;
    private static final int MOST_YEARS = 30;
    private static final int OLDEST = 99;

    private static final int INPUT = 0;
    private static final int PID = 1;
    private static final int OUTPUT = 2;
    private static final int PICK = 3;

    private static final int VALUE = 0;
    private static final int OTHER = 1;
    private static final int SET = 2;
    private static final int WHERES = 3;

    private static final int OUT_OF_SERVICE = 0;
    private static final int MAN = 1;
    private static final int AUTO = 2;
    private static final int CASCADE = 3;

    private static final int LOW = 1;
    private static final int HIGH = 2;

    private static final int TEXTS = 0;
    private static final int ACTS = 1;
    private static final int NOTES = 2;
    private static final int STATUSES = 3;

    private static final int FIRST_DEVICE_CAUSE = 1;
    private static final int FIRST_SENSOR_CAUSE = 6;
    private static final int CAUSES = 10;

    // A BLOCK's cells in a State. GAIN stands there, too, so that a trial can have another one.
    private static final int TARGET = 0;
    private static final int ACTUAL = 1;
    private static final int SETPOINT = 2;
    private static final int OUT = 3;
    private static final int LAST = 4;
    private static final int GOOD = 5;
    private static final int LIMIT = 6;
    private static final int ACK = 7;
    private static final int GAIN = 8;
    private static final int BLOCK_CELLS = 9;

    // What came by a LINK or a way BACK. SIGN is ACK of the one, ASK of the other.
    private static final int CAME = 0;
    private static final int CAME_GOOD = 1;
    private static final int CAME_LIMIT = 2;
    private static final int SIGN = 3;
    private static final int AGE = 4;
    private static final int LINK_CELLS = 5;

    // Behind the LINKS stands one row that is always BAD, of 0: for what has no LINK.
    private static final int LINKS_AT = MOST_BLOCKS * BLOCK_CELLS;
    private static final int NO_LINK_AT = LINKS_AT + MOST_LINKS * LINK_CELLS;
    private static final int BACKS_AT = NO_LINK_AT + LINK_CELLS;
    private static final int SENSORS_AT = BACKS_AT + MOST_LINKS * LINK_CELLS;
    private static final int BROKEN = SENSORS_AT + PORTS;
    private static final int DEVICES_ON = BROKEN + 1;
    private static final int SCHEDULER = DEVICES_ON + 1;
    private static final int WAIT = SCHEDULER + 1;
    private static final int TIME = WAIT + 1;
    // OLD stands in the State for the same reason as GAIN.
    private static final int OLD = TIME + 1;
    private static final int STATE_CELLS = OLD + 1;

    private final byte[] tape = new byte[TAPE_BYTES];
    private int taped = 0;
    private int faultPlace = NONE;
    private Plan plan = new Plan();
    private final Reader reader = new Reader();
    private final Memory live = new Memory();
    private final Memory kept = new Memory();
    private boolean imaged = false;
    private final State trial = new State();
    private final State rival = new State();
    private final Layout trialLayout = new Layout();
    private final Years drawn = new Years();
    private final int[] seenModes = new int[MOST_BLOCKS];

    public CascadeBus() {
        live.state.startAnew(plan);
    }

    public int feed(int a, int b, int c, int d, int e) {
        if (taped + FEED_BYTES > TAPE_BYTES) {
            return NONE;
        }
        putBytes(a);
        putBytes(b);
        putBytes(c);
        putBytes(d);
        putBytes(e);
        return taped;
    }

    private void putBytes(int number) {
        for (int shift = 24; shift >= 0; shift -= 8) {
            tape[taped] = (byte) (number >>> shift);
            taped++;
        }
    }

    public int bus(int n) throws IllegalArgumentException {
        if (n < 0 || n > taped) {
            throw new IllegalArgumentException();
        }
        taped = 0;
        int found = reader.readText(tape, n);
        faultPlace = reader.place;
        if (found != 0) {
            live.status[TEXTS]++;
            return found;
        }
        plan = reader.changePlan(plan);
        plan.layout.lay(plan, NONE, 0);
        live.state.startAnew(plan);
        live.history.clear();
        live.noted.clear();
        imaged = false;
        return 0;
    }

    public int fault() {
        return faultPlace;
    }

    public int count(int what) throws NoSuchElementException {
        int[] s = live.state.cells;
        switch (what) {
            case 0: return plan.devices;
            case 1: return plan.blocks;
            case 2: return plan.links.many;
            case 3: return s[TIME];
            case 4: return s[SCHEDULER];
            case 5: return s[WAIT];
            case 6: return s[DEVICES_ON];
            case 7: return plan.layout.length;
            case 8: return plan.layout.slots;
            case 9: return s[BROKEN];
            case 10: return live.history.many;
            case 11: return live.noted.many;
            case 12: return taped;
            case 13: return live.status[TEXTS];
            case 14: return live.status[ACTS];
            case 15: return live.status[NOTES];
            default: throw new NoSuchElementException();
        }
    }

    public int block(int block, int what) throws NoSuchElementException {
        needBlock(block);
        int[] s = live.state.cells;
        int at = block * BLOCK_CELLS;
        switch (what) {
            case 0: return plan.kind[block];
            case 1: return plan.device[block];
            case 2: return plan.time[block];
            case 3: return plan.layout.start[block];
            case 4: return plan.layout.end[block];
            case 5: return s[at + TARGET];
            case 6: return s[at + ACTUAL];
            case 7: return s[at + SETPOINT];
            case 8: return s[at + OUT];
            case 9: return s[at + LAST];
            case 10: return s[at + GOOD];
            case 11: return s[at + LIMIT];
            case 12: return s[at + ACK];
            case 13: return plan.layout.turn[block];
            default: throw new NoSuchElementException();
        }
    }

    public int link(int link, int what) throws NoSuchElementException {
        if (link < 0 || link >= plan.links.many) {
            throw new NoSuchElementException();
        }
        switch (what) {
            case 0: return plan.links.from[link];
            case 1: return plan.links.to[link];
            case 2: return plan.links.where[link];
            case 3: return plan.layout.slot[link];
            case 4: case 5: case 6: case 7: case 8:
                return live.state.cells[LINKS_AT + link * LINK_CELLS + what - 4];
            case 9: return plan.layout.backSlot[link];
            case 10: case 11: case 12: case 13: case 14:
                return plan.links.where[link] == SET
                        ? live.state.cells[BACKS_AT + link * LINK_CELLS + what - 10] : NONE;
            default: throw new NoSuchElementException();
        }
    }

    public int plant(int number, int what) throws NoSuchElementException {
        if (number < 0 || number >= PORTS) {
            throw new NoSuchElementException();
        }
        switch (what) {
            case 0: return live.state.cells[SENSORS_AT + number];
            case 1: return plan.plants.actuator[number];
            case 2: return Cycle.outOf(plan, live.state.cells, number);
            default: throw new NoSuchElementException();
        }
    }

    public int target(int block, int mode) {
        if (!isBlock(block) || !live.state.canTell(plan, block, mode)) {
            return refuseAct();
        }
        return putCell(block * BLOCK_CELLS + TARGET, mode);
    }

    public int hand(int block, int value) {
        if (!isBlock(block) || value < 0 || value > TOP) {
            return refuseAct();
        }
        int at = live.state.handCell(plan, block);
        return at == NONE ? refuseAct() : putCell(at, value);
    }

    private int putCell(int at, int value) {
        live.keepAct();
        int was = live.state.cells[at];
        live.state.cells[at] = value;
        return was;
    }

    public int power(int device, boolean on) {
        if (!isDevice(device) || live.state.isOn(device) == on) {
            return refuseAct();
        }
        live.keepAct();
        live.state.switchDevice(device, on, plan.over);
        return live.state.cells[DEVICES_ON];
    }

    public int broken(int sensor, boolean is) {
        if (sensor < 0 || sensor >= PORTS || live.state.isBroken(sensor) == is) {
            return refuseAct();
        }
        live.keepAct();
        live.state.turnSensor(sensor);
        return live.state.cells[BROKEN];
    }

    public int cycles(int many) {
        if (many < 1 || many > MOST_CYCLES || live.state.cells[TIME] + many > LAST_TIME) {
            return refuseAct();
        }
        live.keepAct();
        passCycles(live.state, many);
        return live.state.cells[TIME];
    }

    public int undo() {
        return live.history.takeBack(live.state);
    }

    public int then(int block, int cycles, int what) throws NoSuchElementException, IllegalArgumentException {
        needBlock(block);
        int cell = thenCell(what);
        if (cell == NONE) {
            throw new NoSuchElementException();
        }
        needWithin(cycles, 0, FAR_CYCLES);
        trial.copyFrom(live.state);
        passCycles(trial, cycles);
        return trial.cells[block * BLOCK_CELLS + cell];
    }

    private static int thenCell(int what) {
        switch (what) {
            case 0: return OUT;
            case 1: return ACTUAL;
            case 2: return SETPOINT;
            case 3: return GOOD;
            case 4: return LIMIT;
            case 5: return TARGET;
            default: return NONE;
        }
    }

    public int first(int block) throws NoSuchElementException {
        needBlock(block);
        int at = block * BLOCK_CELLS + ACTUAL;
        trial.copyFrom(live.state);
        for (int k = 1; k <= FAR_CYCLES; k++) {
            Cycle.goBy(plan, trial.cells);
            if (trial.cells[at] != live.state.cells[at]) {
                return k;
            }
        }
        return NONE;
    }

    public int jump(int block, int cycles) throws NoSuchElementException, IllegalArgumentException {
        needBlock(block);
        needWithin(cycles, 1, FAR_CYCLES);
        int at = block * BLOCK_CELLS + OUT;
        int greatest = 0;
        trial.copyFrom(live.state);
        for (int k = 0; k < cycles; k++) {
            int was = trial.cells[at];
            Cycle.goBy(plan, trial.cells);
            greatest = Math.max(greatest, Math.abs(trial.cells[at] - was));
        }
        return greatest;
    }

    public int lost(int device, int cycles) throws NoSuchElementException, IllegalArgumentException {
        if (!isDevice(device)) {
            throw new NoSuchElementException();
        }
        needWithin(cycles, 1, MOST_CYCLES);
        return unlikeWithout(device, cycles, live.state.cells[OLD]);
    }

    /** BLOCKS (bits) that have another ACTUAL, were the DEVICE OFF, with what is too old by OLD in both. */
    private int unlikeWithout(int device, int cycles, int old) {
        rival.copyFrom(live.state);
        rival.cells[OLD] = old;
        trial.copyFrom(rival);
        if (trial.isOn(device)) {
            trial.switchDevice(device, false, plan.over);
        }
        int unlike = 0;
        for (int k = 0; k < cycles; k++) {
            Cycle.goBy(plan, rival.cells);
            Cycle.goBy(plan, trial.cells);
            for (int b = 0; b < plan.blocks; b++) {
                int at = b * BLOCK_CELLS + ACTUAL;
                if (rival.cells[at] != trial.cells[at]) {
                    unlike |= 1 << b;
                }
            }
        }
        return unlike;
    }

    public int toRide() {
        int scheduler = live.state.cells[SCHEDULER];
        if (!isDevice(scheduler)) {
            return NONE;
        }
        int others = 0;
        for (int b = 0; b < plan.blocks; b++) {
            if (plan.device[b] != scheduler) {
                others |= 1 << b;
            }
        }
        for (int old = 1; old <= MOST_OLD; old++) {
            if ((unlikeWithout(scheduler, RIDE_CYCLES, old) & others) == 0) {
                return old;
            }
        }
        return NONE;
    }

    public int toTune(int block, int above, int cycles) throws NoSuchElementException, IllegalArgumentException {
        needBlock(block);
        if (plan.kind[block] != PID) {
            throw new NoSuchElementException();
        }
        needWithin(above, 0, TOP);
        needWithin(cycles, 1, MOST_CYCLES);
        for (int gain = MOST_GAIN; gain >= 0; gain--) {
            if (staysBelow(block, gain, above, cycles)) {
                return gain;
            }
        }
        return NONE;
    }

    private boolean staysBelow(int block, int gain, int above, int cycles) {
        int at = block * BLOCK_CELLS;
        int came = plan.cameAt(block, VALUE);
        trial.copyFrom(live.state);
        trial.cells[at + GAIN] = gain;
        for (int k = 0; k < cycles; k++) {
            Cycle.goBy(plan, trial.cells);
            if (trial.cells[came + CAME] - trial.cells[at + SETPOINT] > above) {
                return false;
            }
        }
        return true;
    }

    public int slack(int block) throws NoSuchElementException {
        needBlock(block);
        // From above: a longer TIME may move SLOTS so that LENGTH is as it is again behind one that isn't.
        for (int more = MOST_SLACK; more > 0; more--) {
            trialLayout.lay(plan, block, more);
            if (trialLayout.length == plan.layout.length) {
                return more;
            }
        }
        return 0;
    }

    public int note(int block, int cycles, int mode) {
        boolean can = isBlock(block) && cycles >= 1 && cycles <= NOTE_CYCLES
                && mode >= OUT_OF_SERVICE && mode <= CASCADE;
        if (!can || live.noted.many >= MOST_NOTED) {
            live.status[NOTES]++;
            return NONE;
        }
        live.noted.add(block, cycles, mode);
        return live.noted.many;
    }

    public int fits() {
        int fitting = 0;
        for (int cause = 0; cause < CAUSES; cause++) {
            if (startTrialBy(cause) && trialIsAsNoted()) {
                fitting |= 1 << cause;
            }
        }
        return fitting;
    }

    /** Whether the CAUSE can be; the trial then is as it would be right behind it. */
    private boolean startTrialBy(int cause) {
        trial.copyFrom(live.state);
        if (cause < FIRST_DEVICE_CAUSE) {
            return true;
        }
        if (cause < FIRST_SENSOR_CAUSE) {
            int device = cause - FIRST_DEVICE_CAUSE;
            if (!isDevice(device) || !trial.isOn(device)) {
                return false;
            }
            trial.switchDevice(device, false, plan.over);
            return true;
        }
        int sensor = cause - FIRST_SENSOR_CAUSE;
        if (trial.isBroken(sensor) || !plan.hasInputOf(sensor)) {
            return false;
        }
        trial.turnSensor(sensor);
        return true;
    }

    private boolean trialIsAsNoted() {
        int furthest = live.noted.furthest();
        for (int k = 1; k <= furthest; k++) {
            Cycle.goBy(plan, trial.cells);
            if (!live.noted.isSo(trial.cells, k)) {
                return false;
            }
        }
        return true;
    }

    public int look(int what) throws NoSuchElementException {
        if (what != 0 && what != 1) {
            throw new NoSuchElementException();
        }
        gatherModes(fits());
        int best = NONE;
        int most = 0;
        for (int b = 0; b < plan.blocks; b++) {
            int unlike = Integer.bitCount(seenModes[b]);
            if (unlike > most) {
                best = b;
                most = unlike;
            }
        }
        return what == 0 ? best : most;
    }

    private void gatherModes(int causes) {
        for (int b = 0; b < MOST_BLOCKS; b++) {
            seenModes[b] = 0;
        }
        for (int cause = 0; cause < CAUSES; cause++) {
            if (hasBit(causes, cause) && startTrialBy(cause)) {
                passCycles(trial, LOOK_CYCLES);
                for (int b = 0; b < plan.blocks; b++) {
                    seenModes[b] |= 1 << trial.cells[b * BLOCK_CELLS + ACTUAL];
                }
            }
        }
    }

    public void forget() {
        live.noted.clear();
    }

    public int years(int seed, int n, int what) throws NoSuchElementException, IllegalArgumentException {
        if (what < 0 || what > 2) {
            throw new NoSuchElementException();
        }
        needWithin(n, 0, MOST_YEARS);
        trial.copyFrom(live.state);
        drawn.play(plan, trial, seed, n);
        if (what == 1) {
            return trial.cells[DEVICES_ON];
        }
        return what == 2 ? drawn.schedulers : trial.sumOfOuts(plan.blocks);
    }

    public void image() {
        kept.copyFrom(live);
        imaged = true;
    }

    public boolean restore() {
        if (imaged) {
            live.copyFrom(kept);
        }
        return imaged;
    }

    private boolean isBlock(int block) {
        return block >= 0 && block < plan.blocks;
    }

    private boolean isDevice(int device) {
        return device >= 0 && device < plan.devices;
    }

    private void needBlock(int block) {
        if (!isBlock(block)) {
            throw new NoSuchElementException();
        }
    }

    private static void needWithin(int number, int least, int most) {
        if (number < least || number > most) {
            throw new IllegalArgumentException();
        }
    }

    private static boolean hasBit(int bits, int place) {
        return (bits >> place & 1) == 1;
    }

    private int refuseAct() {
        live.status[ACTS]++;
        return NONE;
    }

    private void passCycles(State state, int many) {
        for (int k = 0; k < many; k++) {
            Cycle.goBy(plan, state.cells);
        }
    }

    /** What a TEXT tells, and the CYCLE laid from it. */
    private static final class Plan {
        int devices = 2;
        int old = 3;
        int over = 2;
        int blocks = 0;
        final int[] kind = new int[MOST_BLOCKS];
        final int[] device = new int[MOST_BLOCKS];
        final int[] time = new int[MOST_BLOCKS];
        /** The SENSOR of an INPUT, the ACTUATOR of an OUTPUT. */
        final int[] port = new int[MOST_BLOCKS];
        final int[] gain = new int[MOST_BLOCKS];
        final int[] reset = new int[MOST_BLOCKS];
        final int[] rate = new int[MOST_BLOCKS];
        final int[] fallsTo = new int[MOST_BLOCKS];
        final boolean[] stays = new boolean[MOST_BLOCKS];
        final boolean[] most = new boolean[MOST_BLOCKS];
        /** The LINK to each place of a BLOCK, or NONE. */
        final int[] into = new int[MOST_BLOCKS * WHERES];
        /** The LINK by which a SET goes from a BLOCK, or NONE. */
        final int[] setFrom = new int[MOST_BLOCKS];
        final Links links = new Links();
        final Plants plants = new Plants();
        final Layout layout = new Layout();

        void clear() {
            devices = 2;
            old = 3;
            over = 2;
            blocks = 0;
            links.many = 0;
            plants.clear();
        }

        /** Needs room for one more BLOCK; its KIND and what that has are told behind it. */
        int addBlock(int itsDevice, int itsTime) {
            int b = blocks;
            device[b] = itsDevice;
            time[b] = itsTime;
            port[b] = NONE;
            gain[b] = 0;
            for (int where = 0; where < WHERES; where++) {
                into[b * WHERES + where] = NONE;
            }
            setFrom[b] = NONE;
            blocks++;
            return b;
        }

        /** Needs room for one more LINK. */
        void addLink(int from, int to, int where) {
            into[to * WHERES + where] = links.many;
            if (where == SET) {
                setFrom[from] = links.many;
            }
            links.add(from, to, where);
        }

        boolean suits(int from, int to, int where) {
            if (where == SET) {
                return kind[from] == PID && (kind[to] == PID || kind[to] == OUTPUT);
            }
            return kind[to] == PICK || where == VALUE && kind[to] == PID;
        }

        boolean hasLinked(int from, int to, int where) {
            return into[to * WHERES + where] != NONE || where == SET && setFrom[from] != NONE;
        }

        boolean hasInputOf(int sensor) {
            for (int b = 0; b < blocks; b++) {
                if (kind[b] == INPUT && port[b] == sensor) {
                    return true;
                }
            }
            return false;
        }

        /** The cells of what came to a place of a BLOCK. */
        int cameAt(int block, int where) {
            int link = into[block * WHERES + where];
            return link == NONE ? NO_LINK_AT : LINKS_AT + link * LINK_CELLS;
        }
    }

    private static final class Links {
        int many = 0;
        final int[] from = new int[MOST_LINKS];
        final int[] to = new int[MOST_LINKS];
        final int[] where = new int[MOST_LINKS];

        void add(int itsFrom, int itsTo, int itsWhere) {
            from[many] = itsFrom;
            to[many] = itsTo;
            where[many] = itsWhere;
            many++;
        }

        /** Whether by LINKS, or as the same one, a BLOCK stands ahead of another one. */
        boolean leads(int ahead, int behind) {
            int reached = 1 << ahead;
            for (int round = 0; round < MOST_BLOCKS; round++) {
                for (int l = 0; l < many; l++) {
                    if (hasBit(reached, from[l])) {
                        reached |= 1 << to[l];
                    }
                }
            }
            return hasBit(reached, behind);
        }
    }

    /** By SENSOR. */
    private static final class Plants {
        final int[] actuator = {NONE, NONE, NONE, NONE};
        final int[] gain = new int[PORTS];
        final int[] lag = new int[PORTS];

        void clear() {
            for (int sensor = 0; sensor < PORTS; sensor++) {
                actuator[sensor] = NONE;
                gain[sensor] = 0;
                lag[sensor] = 1;
            }
        }
    }

    /** THE CYCLE as it is laid. */
    private static final class Layout {
        int length = 0;
        int slots = 0;
        private int taken = 0;
        final int[] order = new int[MOST_BLOCKS];
        final int[] turn = new int[MOST_BLOCKS];
        final int[] start = new int[MOST_BLOCKS];
        final int[] end = new int[MOST_BLOCKS];
        final int[] slot = new int[MOST_LINKS];
        final int[] backSlot = new int[MOST_LINKS];
        private final int[] deviceEnd = new int[MOST_DEVICES];

        /** With one BLOCK's TIME more by so much (NONE: of no BLOCK). */
        void lay(Plan p, int longer, int more) {
            startEmpty();
            for (int k = 0; k < p.blocks; k++) {
                int b = leastReady(p);
                if (b == NONE) {
                    return;
                }
                takeBlock(p, b, b == longer ? p.time[b] + more : p.time[b]);
            }
            for (int l = 0; l < p.links.many; l++) {
                if (p.links.where[l] == SET && isAcross(p, l)) {
                    backSlot[l] = claimSlot(end[p.links.to[l]]);
                }
            }
        }

        private void startEmpty() {
            length = 0;
            slots = 0;
            taken = 0;
            for (int b = 0; b < MOST_BLOCKS; b++) {
                turn[b] = NONE;
            }
            for (int l = 0; l < MOST_LINKS; l++) {
                slot[l] = NONE;
                backSlot[l] = NONE;
            }
            for (int d = 0; d < MOST_DEVICES; d++) {
                deviceEnd[d] = 0;
            }
        }

        private int leastReady(Plan p) {
            for (int b = 0; b < p.blocks; b++) {
                if (turn[b] == NONE && isReady(p, b)) {
                    return b;
                }
            }
            return NONE;
        }

        private boolean isReady(Plan p, int block) {
            for (int l = 0; l < p.links.many; l++) {
                if (p.links.to[l] == block && turn[p.links.from[l]] == NONE) {
                    return false;
                }
            }
            return true;
        }

        private void takeBlock(Plan p, int block, int time) {
            int earliest = deviceEnd[p.device[block]];
            for (int l = 0; l < p.links.many; l++) {
                if (p.links.to[l] == block) {
                    int ends = end[p.links.from[l]];
                    if (isAcross(p, l)) {
                        slot[l] = claimSlot(ends);
                        ends = slot[l] + 1;
                    }
                    earliest = Math.max(earliest, ends);
                }
            }
            start[block] = earliest;
            end[block] = earliest + time;
            deviceEnd[p.device[block]] = end[block];
            length = Math.max(length, end[block]);
            order[taken] = block;
            turn[block] = taken;
            taken++;
        }

        private static boolean isAcross(Plan p, int link) {
            return p.device[p.links.from[link]] != p.device[p.links.to[link]];
        }

        private int claimSlot(int least) {
            int claimed = least;
            // Of so many places in a row one is free: no more SLOTS than that are ever claimed.
            for (int k = 0; k < 2 * MOST_LINKS && isClaimed(claimed); k++) {
                claimed++;
            }
            slots++;
            length = Math.max(length, claimed + 1);
            return claimed;
        }

        private boolean isClaimed(int place) {
            for (int l = 0; l < MOST_LINKS; l++) {
                if (slot[l] == place || backSlot[l] == place) {
                    return true;
                }
            }
            return false;
        }
    }

    /** Reads a TEXT into a Plan of its own, up to its first FAULT; behind that nothing more is read or told. */
    private static final class Reader {
        private static final int END = 0;
        private static final int WORD = 1;
        private static final int NUMBER = 2;
        private static final int SEMICOLON = 3;
        private static final int NO_TOKEN = 4;

        private static final int CANT_STAND = 1;
        private static final int TOO_MUCH = 2;
        private static final int MISSING = 3;
        private static final int TOLD_ALREADY = 4;
        private static final int LINKED_ALREADY = 5;

        private static final int MOST_DIGITS = 4;

        int place = NONE;
        private int found = 0;
        private byte[] bytes = new byte[0];
        private int length = 0;
        private int at = 0;
        private Plan plan = new Plan();
        private int clauses = 0;
        private boolean oldTold = false;
        private boolean overTold = false;
        private int token = END;
        private int tokenAt = 0;

        /** The FAULT, or 0. */
        int readText(byte[] text, int many) {
            bytes = text;
            length = Math.min(many, text.length);
            at = 0;
            place = NONE;
            found = 0;
            clauses = 0;
            oldTold = false;
            overTold = false;
            plan.clear();
            nextToken();
            // A CLAUSE has a byte at least, so there are never more CLAUSES than bytes.
            for (int k = 0; k < length && found == 0 && token != END; k++) {
                readClause();
                nextToken();
            }
            return found;
        }

        /** The Plan as told, for one that the next TEXT may be told into: so none is made anew. */
        Plan changePlan(Plan other) {
            Plan told = plan;
            plan = other;
            return told;
        }

        private void readClause() {
            if (isWord("devices")) {
                readDevices();
            } else if (isWord("block")) {
                readBlock();
            } else if (isWord("link")) {
                readLink();
            } else if (isWord("plant")) {
                readPlant();
            } else if (isWord("old")) {
                readOld();
            } else if (isWord("over")) {
                readOver();
            } else {
                fail(CANT_STAND);
            }
            nextToken();
            if (token != SEMICOLON) {
                fail(CANT_STAND);
            }
            clauses++;
        }

        private void readDevices() {
            if (clauses > 0) {
                fail(TOLD_ALREADY);
            }
            plan.devices = readNumber(1, MOST_DEVICES);
        }

        private void readOld() {
            if (oldTold) {
                fail(TOLD_ALREADY);
            }
            oldTold = true;
            plan.old = readNumber(1, MOST_OLD);
        }

        private void readOver() {
            if (overTold) {
                fail(TOLD_ALREADY);
            }
            overTold = true;
            plan.over = readNumber(0, 9);
        }

        private void readPlant() {
            int sensor = readNumber(0, PORTS - 1);
            if (plan.plants.actuator[sensor] != NONE) {
                fail(TOLD_ALREADY);
            }
            int actuator = readNumber(0, PORTS - 1);
            int gain = readNumber(0, MOST_GAIN);
            int lag = readNumber(1, 50);
            if (found == 0) {
                plan.plants.actuator[sensor] = actuator;
                plan.plants.gain[sensor] = gain;
                plan.plants.lag[sensor] = lag;
            }
        }

        private void readBlock() {
            if (plan.blocks >= MOST_BLOCKS) {
                fail(TOO_MUCH);
            }
            int device = readNumber(0, MOST_DEVICES - 1);
            if (device >= plan.devices) {
                fail(MISSING);
            }
            int time = readNumber(1, 9);
            nextToken();
            if (found != 0) {
                return;
            }
            int b = plan.addBlock(device, time);
            if (isWord("input")) {
                plan.kind[b] = INPUT;
                plan.port[b] = readNumber(0, PORTS - 1);
            } else if (isWord("pid")) {
                readPid(b);
            } else if (isWord("output")) {
                plan.kind[b] = OUTPUT;
                plan.port[b] = readNumber(0, PORTS - 1);
                plan.rate[b] = readNumber(1, TOP);
            } else if (isWord("pick")) {
                plan.kind[b] = PICK;
                plan.most[b] = readChoice("most", "least");
            } else {
                fail(CANT_STAND);
            }
        }

        private void readPid(int block) {
            plan.kind[block] = PID;
            plan.gain[block] = readNumber(0, MOST_GAIN);
            plan.reset[block] = readNumber(0, 100);
            plan.fallsTo[block] = readChoice("man", "auto") ? MAN : AUTO;
            plan.stays[block] = readChoice("stays", "back");
        }

        private void readLink() {
            if (plan.links.many >= MOST_LINKS) {
                fail(TOO_MUCH);
            }
            int from = readBlockNumber();
            int to = readBlockNumber();
            nextToken();
            if (found != 0) {
                return;
            }
            int where = isWord("value") ? VALUE : isWord("other") ? OTHER : isWord("set") ? SET : NONE;
            if (where == NONE) {
                fail(CANT_STAND);
            } else if (!plan.suits(from, to, where)) {
                fail(MISSING);
            } else if (plan.hasLinked(from, to, where) || plan.links.leads(to, from)) {
                fail(LINKED_ALREADY);
            } else {
                plan.addLink(from, to, where);
            }
        }

        private int readBlockNumber() {
            int block = readNumber(0, MOST_BLOCKS - 1);
            if (block >= plan.blocks) {
                fail(MISSING);
            }
            return block;
        }

        /** The next TOKEN's number; the least one behind a FAULT, so that it is always as told. */
        private int readNumber(int least, int most) {
            nextToken();
            if (token != NUMBER) {
                fail(CANT_STAND);
                return least;
            }
            int number = numberOfToken();
            if (number < least || number > most) {
                fail(TOO_MUCH);
            }
            return found == 0 ? number : least;
        }

        /** NONE of digits that are too many: it is never as told. */
        private int numberOfToken() {
            if (at - tokenAt > MOST_DIGITS) {
                return NONE;
            }
            int number = 0;
            for (int k = tokenAt; k < at; k++) {
                number = number * 10 + bytes[k] - '0';
            }
            return number;
        }

        private boolean readChoice(String yes, String no) {
            nextToken();
            boolean chosen = isWord(yes);
            if (!chosen && !isWord(no)) {
                fail(CANT_STAND);
            }
            return chosen;
        }

        /** At the latest TOKEN; a later FAULT never takes the first one's place. */
        private void fail(int fault) {
            if (found == 0) {
                found = fault;
                place = tokenAt;
            }
        }

        private void nextToken() {
            if (found != 0) {
                return;
            }
            while (at < length && (bytes[at] == 32 || bytes[at] == 10)) {
                at++;
            }
            tokenAt = at;
            if (at >= length) {
                token = END;
                return;
            }
            int sign = bytes[at];
            at++;
            if (sign >= 'a' && sign <= 'z') {
                token = WORD;
                takeRow('a', 'z');
            } else if (sign >= '0' && sign <= '9') {
                token = NUMBER;
                takeRow('0', '9');
            } else {
                token = sign == ';' ? SEMICOLON : NO_TOKEN;
            }
        }

        private void takeRow(int least, int greatest) {
            while (at < length && bytes[at] >= least && bytes[at] <= greatest) {
                at++;
            }
        }

        private boolean isWord(String word) {
            if (token != WORD || at - tokenAt != word.length()) {
                return false;
            }
            for (int k = 0; k < word.length(); k++) {
                if (bytes[tokenAt + k] != word.charAt(k)) {
                    return false;
                }
            }
            return true;
        }
    }

    /** All that CYCLES and ACTS change, in one row, so that trials, ACTS and images are copies of it. */
    private static final class State {
        final int[] cells = new int[STATE_CELLS];

        void copyFrom(State other) {
            System.arraycopy(other.cells, 0, cells, 0, STATE_CELLS);
        }

        void startAnew(Plan p) {
            for (int k = 0; k < STATE_CELLS; k++) {
                cells[k] = 0;
            }
            for (int b = 0; b < p.blocks; b++) {
                int at = b * BLOCK_CELLS;
                cells[at + TARGET] = p.into[b * WHERES + SET] == NONE ? AUTO : CASCADE;
                cells[at + ACTUAL] = MAN;
                cells[at + GOOD] = 1;
                cells[at + GAIN] = p.gain[b];
            }
            for (int l = 0; l < MOST_LINKS; l++) {
                cells[BACKS_AT + l * LINK_CELLS + SIGN] = 1;
            }
            cells[DEVICES_ON] = (1 << p.devices) - 1;
            cells[OLD] = p.old;
        }

        boolean isOn(int device) {
            return hasBit(cells[DEVICES_ON], device);
        }

        void switchDevice(int device, boolean on, int over) {
            if (on) {
                cells[DEVICES_ON] |= 1 << device;
                return;
            }
            cells[DEVICES_ON] &= ~(1 << device);
            if (cells[SCHEDULER] == device) {
                cells[SCHEDULER] = NONE;
                cells[WAIT] = over;
            }
        }

        boolean isBroken(int sensor) {
            return hasBit(cells[BROKEN], sensor);
        }

        void turnSensor(int sensor) {
            cells[BROKEN] ^= 1 << sensor;
        }

        boolean canTell(Plan p, int block, int mode) {
            boolean cascades = p.kind[block] == PID || p.kind[block] == OUTPUT;
            int greatest = cascades ? CASCADE : AUTO;
            return mode >= OUT_OF_SERVICE && mode <= greatest && cells[block * BLOCK_CELLS + TARGET] != mode;
        }

        /** The cell of a BLOCK that can be told by HAND, or NONE. */
        int handCell(Plan p, int block) {
            int at = block * BLOCK_CELLS;
            if (cells[at + ACTUAL] == MAN) {
                return at + OUT;
            }
            boolean hasSetpoint = p.kind[block] == PID || p.kind[block] == OUTPUT;
            return hasSetpoint && cells[at + ACTUAL] == AUTO ? at + SETPOINT : NONE;
        }

        int sumOfOuts(int blocks) {
            int sum = 0;
            for (int b = 0; b < blocks; b++) {
                sum += cells[b * BLOCK_CELLS + OUT];
            }
            return sum;
        }
    }

    /** How a CYCLE goes by, over a State's cells. */
    private static final class Cycle {
        static void goBy(Plan p, int[] s) {
            moveSensors(p, s);
            seekScheduler(p, s);
            for (int k = 0; k < p.blocks; k++) {
                int b = p.layout.order[k];
                for (int where = 0; where < WHERES; where++) {
                    int link = p.into[b * WHERES + where];
                    if (link != NONE) {
                        bringLink(p, s, link);
                    }
                }
                if (hasBit(s[DEVICES_ON], p.device[b])) {
                    runBlock(p, s, b);
                }
            }
            for (int l = 0; l < p.links.many; l++) {
                if (p.links.where[l] == SET) {
                    bringBack(p, s, l);
                }
            }
            s[TIME]++;
        }

        private static void moveSensors(Plan p, int[] s) {
            for (int sensor = 0; sensor < PORTS; sensor++) {
                int actuator = p.plants.actuator[sensor];
                int lag = p.plants.lag[sensor];
                if (actuator != NONE && lag > 0) {
                    int at = SENSORS_AT + sensor;
                    int goal = outOf(p, s, actuator) * p.plants.gain[sensor] / 100;
                    s[at] = within(s[at] + (goal - s[at]) / lag);
                }
            }
        }

        static int outOf(Plan p, int[] s, int actuator) {
            for (int b = p.blocks - 1; b >= 0; b--) {
                if (p.kind[b] == OUTPUT && p.port[b] == actuator) {
                    return s[b * BLOCK_CELLS + OUT];
                }
            }
            return 0;
        }

        private static void seekScheduler(Plan p, int[] s) {
            if (s[SCHEDULER] != NONE) {
                return;
            }
            if (s[WAIT] > 0) {
                s[WAIT]--;
                return;
            }
            for (int d = p.devices - 1; d >= 0; d--) {
                if (hasBit(s[DEVICES_ON], d)) {
                    s[SCHEDULER] = d;
                }
            }
        }

        private static void bringLink(Plan p, int[] s, int link) {
            int from = p.links.from[link];
            int at = LINKS_AT + link * LINK_CELLS;
            if (!carries(s, p.device[from], p.device[p.links.to[link]])) {
                growOlder(s, at);
                return;
            }
            int block = from * BLOCK_CELLS;
            s[at + CAME] = s[block + OUT];
            s[at + CAME_GOOD] = s[block + GOOD];
            s[at + CAME_LIMIT] = s[block + LIMIT];
            s[at + SIGN] = s[block + ACK];
            s[at + AGE] = 0;
        }

        private static void bringBack(Plan p, int[] s, int link) {
            int from = p.links.to[link];
            int at = BACKS_AT + link * LINK_CELLS;
            if (!carries(s, p.device[from], p.device[p.links.from[link]])) {
                growOlder(s, at);
                return;
            }
            int block = from * BLOCK_CELLS;
            s[at + CAME] = s[block + (p.kind[from] == PID ? SETPOINT : OUT)];
            s[at + CAME_GOOD] = s[block + ACTUAL] == OUT_OF_SERVICE ? 0 : 1;
            s[at + CAME_LIMIT] = s[block + LIMIT];
            s[at + SIGN] = s[block + ACTUAL] == CASCADE ? 0 : 1;
            s[at + AGE] = 0;
        }

        /** To a DEVICE that is OFF nothing comes, not even from within it. */
        private static boolean carries(int[] s, int fromDevice, int toDevice) {
            if (!hasBit(s[DEVICES_ON], toDevice)) {
                return false;
            }
            return fromDevice == toDevice || s[SCHEDULER] != NONE && hasBit(s[DEVICES_ON], fromDevice);
        }

        private static void growOlder(int[] s, int at) {
            s[at + AGE] = Math.min(OLDEST, s[at + AGE] + 1);
            if (s[at + AGE] > s[OLD]) {
                s[at + CAME_GOOD] = 0;
            }
        }

        private static void runBlock(Plan p, int[] s, int block) {
            int at = block * BLOCK_CELLS;
            s[at + ACTUAL] = actualOf(p, s, block);
            switch (p.kind[block]) {
                case INPUT: runInput(s, at, p.port[block]); break;
                case PID: runPid(p, s, block); break;
                case OUTPUT: runOutput(s, at, p.cameAt(block, SET), p.rate[block]); break;
                default: runPick(p, s, block); break;
            }
        }

        private static int actualOf(Plan p, int[] s, int block) {
            int at = block * BLOCK_CELLS;
            int target = s[at + TARGET];
            int kind = p.kind[block];
            if (target == OUT_OF_SERVICE || target == MAN) {
                return target;
            }
            if (kind == INPUT || kind == PICK) {
                return AUTO;
            }
            if (kind == PID && s[p.cameAt(block, VALUE) + CAME_GOOD] == 0) {
                return fall(p, s, block, MAN);
            }
            if (target == AUTO) {
                return AUTO;
            }
            int set = p.cameAt(block, SET);
            if (s[set + CAME_GOOD] == 0) {
                return kind == PID ? fall(p, s, block, p.fallsTo[block]) : AUTO;
            }
            return s[at + ACTUAL] == CASCADE || s[set + SIGN] == 1 ? CASCADE : AUTO;
        }

        private static int fall(Plan p, int[] s, int pid, int mode) {
            if (p.stays[pid]) {
                s[pid * BLOCK_CELLS + TARGET] = mode;
            }
            return mode;
        }

        private static void runInput(int[] s, int at, int sensor) {
            s[at + GOOD] = s[at + ACTUAL] == OUT_OF_SERVICE ? 0 : 1;
            if (s[at + ACTUAL] == AUTO) {
                s[at + OUT] = s[SENSORS_AT + sensor];
                s[at + GOOD] = hasBit(s[BROKEN], sensor) ? 0 : 1;
            }
        }

        private static void runPick(Plan p, int[] s, int block) {
            int at = block * BLOCK_CELLS;
            s[at + GOOD] = s[at + ACTUAL] == OUT_OF_SERVICE ? 0 : 1;
            if (s[at + ACTUAL] != AUTO) {
                return;
            }
            int value = p.cameAt(block, VALUE);
            int other = p.cameAt(block, OTHER);
            boolean valueGood = s[value + CAME_GOOD] == 1;
            boolean otherGood = s[other + CAME_GOOD] == 1;
            if (valueGood && otherGood) {
                s[at + OUT] = p.most[block] ? Math.max(s[value + CAME], s[other + CAME])
                        : Math.min(s[value + CAME], s[other + CAME]);
            } else if (valueGood) {
                s[at + OUT] = s[value + CAME];
            } else if (otherGood) {
                s[at + OUT] = s[other + CAME];
            } else {
                s[at + GOOD] = 0;
            }
        }

        private static void runOutput(int[] s, int at, int set, int rate) {
            int actual = s[at + ACTUAL];
            if (actual == CASCADE) {
                s[at + SETPOINT] = s[set + CAME];
            } else if (actual == MAN) {
                s[at + SETPOINT] = s[at + OUT];
            }
            if (actual == AUTO || actual == CASCADE) {
                int way = s[at + SETPOINT] - s[at + OUT];
                s[at + OUT] += Math.max(-rate, Math.min(rate, way));
            }
            s[at + GOOD] = actual == OUT_OF_SERVICE ? 0 : 1;
            int out = s[at + OUT];
            int setpoint = s[at + SETPOINT];
            s[at + LIMIT] = out == TOP || setpoint > out ? HIGH : out == 0 || setpoint < out ? LOW : 0;
        }

        private static void runPid(Plan p, int[] s, int block) {
            int at = block * BLOCK_CELLS;
            int actual = s[at + ACTUAL];
            if (actual == CASCADE) {
                s[at + SETPOINT] = s[p.cameAt(block, SET) + CAME];
            }
            int error = s[at + SETPOINT] - s[p.cameAt(block, VALUE) + CAME];
            boolean alone = p.setFrom[block] == NONE;
            int back = alone ? NO_LINK_AT : BACKS_AT + p.setFrom[block] * LINK_CELLS;
            boolean backGood = s[back + CAME_GOOD] == 1;
            boolean follows = backGood && s[back + SIGN] == 1 && actual != OUT_OF_SERVICE;
            s[at + ACK] = follows ? 1 : 0;
            if (follows) {
                s[at + OUT] = s[back + CAME];
            } else if ((actual == AUTO || actual == CASCADE) && (alone || backGood)) {
                int step = s[at + GAIN] * (error - s[at + LAST]) / 100 + p.reset[block] * error / 100;
                int limit = s[back + CAME_LIMIT];
                boolean held = step > 0 && limit == HIGH || step < 0 && limit == LOW;
                s[at + OUT] = held ? s[at + OUT] : within(s[at + OUT] + step);
            }
            if (actual != OUT_OF_SERVICE) {
                s[at + LAST] = error;
            }
            s[at + GOOD] = actual == OUT_OF_SERVICE ? 0 : 1;
            int ownLimit = s[at + OUT] == TOP ? HIGH : s[at + OUT] == 0 ? LOW : 0;
            s[at + LIMIT] = backGood && s[back + CAME_LIMIT] != 0 ? s[back + CAME_LIMIT] : ownLimit;
        }

        private static int within(int value) {
            return Math.max(0, Math.min(TOP, value));
        }
    }

    /** The States ahead of the latest ACTS. */
    private static final class History {
        int many = 0;
        private int oldest = 0;
        private final State[] states = new State[MOST_ACTS];

        void clear() {
            many = 0;
        }

        void keep(State state) {
            if (many == MOST_ACTS) {
                oldest = (oldest + 1) % MOST_ACTS;
                many--;
            }
            put((oldest + many) % MOST_ACTS, state);
            many++;
        }

        /** How many are left; NONE, and nothing changes, if there was none. */
        int takeBack(State state) {
            if (many == 0) {
                return NONE;
            }
            State was = states[(oldest + many - 1) % MOST_ACTS];
            if (was != null) {
                state.copyFrom(was);
            }
            many--;
            return many;
        }

        void copyFrom(History other) {
            many = other.many;
            oldest = 0;
            for (int k = 0; k < many; k++) {
                State from = other.states[(other.oldest + k) % MOST_ACTS];
                if (from != null) {
                    put(k, from);
                }
            }
        }

        /** Made when first needed: most objects never keep so many. */
        private void put(int place, State from) {
            if (states[place] == null) {
                states[place] = new State();
            }
            states[place].copyFrom(from);
        }
    }

    /** What is NOTED. */
    private static final class Noted {
        int many = 0;
        private final int[] blocks = new int[MOST_NOTED];
        private final int[] behind = new int[MOST_NOTED];
        private final int[] modes = new int[MOST_NOTED];

        void clear() {
            many = 0;
        }

        /** Needs room for one more. */
        void add(int itsBlock, int itsBehind, int itsMode) {
            blocks[many] = itsBlock;
            behind[many] = itsBehind;
            modes[many] = itsMode;
            many++;
        }

        void copyFrom(Noted other) {
            many = other.many;
            for (int k = 0; k < many; k++) {
                blocks[k] = other.blocks[k];
                behind[k] = other.behind[k];
                modes[k] = other.modes[k];
            }
        }

        int furthest() {
            int greatest = 0;
            for (int k = 0; k < many; k++) {
                greatest = Math.max(greatest, behind[k]);
            }
            return greatest;
        }

        /** Whether all that is NOTED of that many CYCLES is so. */
        boolean isSo(int[] s, int passed) {
            for (int k = 0; k < many; k++) {
                if (behind[k] == passed && s[blocks[k] * BLOCK_CELLS + ACTUAL] != modes[k]) {
                    return false;
                }
            }
            return true;
        }
    }

    /** What an IMAGE keeps. */
    private static final class Memory {
        final State state = new State();
        final History history = new History();
        final Noted noted = new Noted();
        final int[] status = new int[STATUSES];

        void keepAct() {
            history.keep(state);
        }

        void copyFrom(Memory other) {
            state.copyFrom(other.state);
            history.copyFrom(other.history);
            noted.copyFrom(other.noted);
            for (int k = 0; k < STATUSES; k++) {
                status[k] = other.status[k];
            }
        }
    }

    /** YEARS by a seed, over a State that is a trial. */
    private static final class Years {
        int schedulers = 0;
        private int seed = 0;

        void play(Plan p, State s, int itsSeed, int many) {
            schedulers = 0;
            seed = itsSeed;
            for (int k = 0; k < many; k++) {
                int act = draw(6);
                if (act <= 1) {
                    passSome(p, s, draw(5) + 1);
                } else if (act == 3) {
                    int device = draw(p.devices);
                    s.switchDevice(device, !s.isOn(device), p.over);
                } else if (act == 4) {
                    s.turnSensor(draw(PORTS));
                } else if (p.blocks > 0) {
                    tellBlock(p, s, act == 2);
                }
            }
        }

        private void tellBlock(Plan p, State s, boolean itsTarget) {
            int block = draw(p.blocks);
            if (itsTarget) {
                int mode = draw(4);
                if (s.canTell(p, block, mode)) {
                    s.cells[block * BLOCK_CELLS + TARGET] = mode;
                }
                return;
            }
            int value = draw(TOP + 1);
            int at = s.handCell(p, block);
            if (at != NONE) {
                s.cells[at] = value;
            }
        }

        private int draw(int of) {
            seed = seed * 1103515245 + 12345;
            return of > 0 ? (seed >> 16 & 0x7fff) % of : 0;
        }

        private void passSome(Plan p, State s, int many) {
            for (int k = 0; k < many; k++) {
                boolean none = s.cells[SCHEDULER] == NONE;
                Cycle.goBy(p, s.cells);
                if (none && s.cells[SCHEDULER] != NONE) {
                    schedulers++;
                }
            }
        }
    }
}
