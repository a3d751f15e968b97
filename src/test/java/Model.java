import java.util.ArrayDeque;
import java.util.ArrayList;
import java.util.Deque;
import java.util.HashSet;
import java.util.List;
import java.util.Map;
import java.util.NoSuchElementException;
import java.util.Set;
import java.util.TreeMap;
import java.util.TreeSet;

/** The document told once more, in the slowest and plainest way, to hold CascadeBus against. */
final class Model {
    static final int INPUT = 0;
    static final int PID = 1;
    static final int OUTPUT = 2;
    static final int PICK = 3;

    static final class Way {
        int value = 0;
        boolean good = false;
        int limit = 0;
        boolean sign;
        int age = 0;

        Way(boolean sign) {
            this.sign = sign;
        }

        Way copy() {
            Way w = new Way(sign);
            w.value = value;
            w.good = good;
            w.limit = limit;
            w.age = age;
            return w;
        }
    }

    static final class Block {
        int kind;
        int device;
        int time;
        int sensor = -1;
        int actuator = -1;
        int gain;
        int reset;
        int rate;
        int falls;
        boolean stays;
        boolean most;
        int start;
        int end;
        int turn;
        int target = 2;
        int actual = 1;
        int setpoint = 0;
        int out = 0;
        int last = 0;
        boolean good = true;
        int limit = 0;
        boolean ack = false;

        Block copy() {
            Block b = new Block();
            b.kind = kind;
            b.device = device;
            b.time = time;
            b.sensor = sensor;
            b.actuator = actuator;
            b.gain = gain;
            b.reset = reset;
            b.rate = rate;
            b.falls = falls;
            b.stays = stays;
            b.most = most;
            b.start = start;
            b.end = end;
            b.turn = turn;
            b.target = target;
            b.actual = actual;
            b.setpoint = setpoint;
            b.out = out;
            b.last = last;
            b.good = good;
            b.limit = limit;
            b.ack = ack;
            return b;
        }
    }

    static final class Link {
        int from;
        int to;
        String where;
        int slot = -1;
        int backSlot = -1;
        Way forth = new Way(false);
        Way back = new Way(true);

        Link copy() {
            Link l = new Link();
            l.from = from;
            l.to = to;
            l.where = where;
            l.slot = slot;
            l.backSlot = backSlot;
            l.forth = forth.copy();
            l.back = back.copy();
            return l;
        }
    }

    /** A bus with all that is told of it and all that changes. */
    static final class World {
        int devices = 2;
        int old = 3;
        int over = 2;
        List<Block> blocks = new ArrayList<>();
        List<Link> links = new ArrayList<>();
        Map<Integer, int[]> plants = new TreeMap<>();
        int[] sensors = new int[4];
        Set<Integer> broken = new TreeSet<>();
        Set<Integer> on = new TreeSet<>();
        Integer scheduler = 0;
        int wait = 0;
        int time = 0;
        int came = 0;
        int length = 0;

        World copy() {
            World w = new World();
            w.devices = devices;
            w.old = old;
            w.over = over;
            for (Block b : blocks) {
                w.blocks.add(b.copy());
            }
            for (Link l : links) {
                w.links.add(l.copy());
            }
            w.plants = plants;
            w.sensors = sensors.clone();
            w.broken = new TreeSet<>(broken);
            w.on = new TreeSet<>(on);
            w.scheduler = scheduler;
            w.wait = wait;
            w.time = time;
            w.came = came;
            w.length = length;
            return w;
        }

        void begin() {
            for (int d = 0; d < devices; d++) {
                on.add(d);
            }
            for (Link l : links) {
                if (l.where.equals("set")) {
                    blocks.get(l.to).target = 3;
                }
            }
            lay();
        }

        boolean across(Link l) {
            return blocks.get(l.from).device != blocks.get(l.to).device;
        }

        void lay() {
            Set<Integer> used = new HashSet<>();
            List<Integer> taken = new ArrayList<>();
            length = 0;
            while (taken.size() < blocks.size()) {
                int next = 0;
                while (taken.contains(next) || !sources(next, taken)) {
                    next++;
                }
                Block b = blocks.get(next);
                b.start = 0;
                for (int t : taken) {
                    if (blocks.get(t).device == b.device) {
                        b.start = blocks.get(t).end;
                    }
                }
                for (Link l : links) {
                    if (l.to != next) {
                        continue;
                    }
                    int ends = blocks.get(l.from).end;
                    if (across(l)) {
                        l.slot = free(used, ends);
                        ends = l.slot + 1;
                    }
                    b.start = Math.max(b.start, ends);
                }
                b.end = b.start + b.time;
                b.turn = taken.size();
                taken.add(next);
                length = Math.max(length, b.end);
            }
            for (Link l : links) {
                if (l.where.equals("set") && across(l)) {
                    l.backSlot = free(used, blocks.get(l.to).end);
                }
            }
            for (int s : used) {
                length = Math.max(length, s + 1);
            }
        }

        boolean sources(int to, List<Integer> taken) {
            for (Link l : links) {
                if (l.to == to && !taken.contains(l.from)) {
                    return false;
                }
            }
            return true;
        }

        static int free(Set<Integer> used, int least) {
            int s = least;
            while (!used.add(s)) {
                s++;
            }
            return s;
        }

        int outOf(int actuator) {
            int out = 0;
            for (Block b : blocks) {
                if (b.kind == OUTPUT && b.actuator == actuator) {
                    out = b.out;
                }
            }
            return out;
        }

        static int cut(int n) {
            return n < 0 ? 0 : n > 1000 ? 1000 : n;
        }

        void cycle() {
            for (Map.Entry<Integer, int[]> e : plants.entrySet()) {
                int s = e.getKey();
                int[] p = e.getValue();
                int goal = outOf(p[0]) * p[1] / 100;
                sensors[s] = cut(sensors[s] + (goal - sensors[s]) / p[2]);
            }
            if (scheduler == null) {
                if (wait == 0) {
                    if (!on.isEmpty()) {
                        scheduler = on.iterator().next();
                        came++;
                    }
                } else {
                    wait--;
                }
            }
            for (int turn = 0; turn < blocks.size(); turn++) {
                for (int k = 0; k < blocks.size(); k++) {
                    if (blocks.get(k).turn == turn) {
                        comeAndRun(k);
                    }
                }
            }
            for (Link l : links) {
                if (!l.where.equals("set")) {
                    continue;
                }
                Block of = blocks.get(l.to);
                Block receiver = blocks.get(l.from);
                if (comes(of.device, receiver.device)) {
                    l.back.value = of.kind == PID ? of.setpoint : of.out;
                    l.back.good = of.actual != 0;
                    l.back.limit = of.limit;
                    l.back.sign = of.actual != 3;
                    l.back.age = 0;
                } else {
                    ages(l.back);
                }
            }
            time++;
        }

        void comeAndRun(int number) {
            Block b = blocks.get(number);
            for (Link l : links) {
                if (l.to == number) {
                    Block from = blocks.get(l.from);
                    if (comes(from.device, b.device)) {
                        l.forth.value = from.out;
                        l.forth.good = from.good;
                        l.forth.limit = from.limit;
                        l.forth.sign = from.ack;
                        l.forth.age = 0;
                    } else {
                        ages(l.forth);
                    }
                }
            }
            if (!on.contains(b.device)) {
                return;
            }
            Way value = way(number, "value");
            Way other = way(number, "other");
            Way set = way(number, "set");
            b.actual = actual(b, value, set);
            if (b.kind == INPUT) {
                runInput(b);
            } else if (b.kind == PID) {
                runPid(b, value, set, backOf(number));
            } else if (b.kind == OUTPUT) {
                runOutput(b, set);
            } else {
                runPick(b, value, other);
            }
        }

        boolean comes(int from, int to) {
            if (from == to) {
                return on.contains(to);
            }
            return scheduler != null && on.contains(from) && on.contains(to);
        }

        void ages(Way w) {
            w.age = w.age == 99 ? 99 : w.age + 1;
            if (w.age > old) {
                w.good = false;
            }
        }

        Way way(int to, String where) {
            for (Link l : links) {
                if (l.to == to && l.where.equals(where)) {
                    return l.forth;
                }
            }
            return new Way(false);
        }

        Way backOf(int from) {
            for (Link l : links) {
                if (l.from == from && l.where.equals("set")) {
                    return l.back;
                }
            }
            return null;
        }

        static int actual(Block b, Way value, Way set) {
            if (b.target < 2) {
                return b.target;
            }
            if (b.kind == INPUT || b.kind == PICK) {
                return 2;
            }
            int fallen = -1;
            if (b.kind == PID && !value.good) {
                fallen = 1;
            } else if (b.target == 3 && !set.good) {
                fallen = b.kind == OUTPUT ? 2 : b.falls;
            }
            if (fallen >= 0) {
                if (b.kind == PID && b.stays) {
                    b.target = fallen;
                }
                return fallen;
            }
            if (b.target == 3 && (b.actual == 3 || set.sign)) {
                return 3;
            }
            return 2;
        }

        void runInput(Block b) {
            if (b.actual == 2) {
                b.out = sensors[b.sensor];
                b.good = !broken.contains(b.sensor);
            } else {
                b.good = b.actual == 1;
            }
        }

        static void runPick(Block b, Way value, Way other) {
            if (b.actual != 2) {
                b.good = b.actual == 1;
                return;
            }
            Integer best = null;
            for (Way w : List.of(value, other)) {
                if (w.good && (best == null || (b.most ? w.value > best : w.value < best))) {
                    best = w.value;
                }
            }
            b.good = best != null;
            b.out = best == null ? b.out : best;
        }

        static void runOutput(Block b, Way set) {
            if (b.actual == 3) {
                b.setpoint = set.value;
            }
            if (b.actual == 1) {
                b.setpoint = b.out;
            }
            if (b.actual >= 2) {
                if (b.setpoint > b.out) {
                    b.out = Math.min(b.setpoint, b.out + b.rate);
                } else {
                    b.out = Math.max(b.setpoint, b.out - b.rate);
                }
            }
            b.good = b.actual != 0;
            b.limit = 0;
            if (b.out == 0 || b.setpoint < b.out) {
                b.limit = 1;
            }
            if (b.out == 1000 || b.setpoint > b.out) {
                b.limit = 2;
            }
        }

        static void runPid(Block b, Way value, Way set, Way back) {
            if (b.actual == 3) {
                b.setpoint = set.value;
            }
            int e = b.setpoint - value.value;
            b.ack = false;
            if (back != null && b.actual != 0 && back.good && back.sign) {
                b.out = back.value;
                b.ack = true;
            } else if (b.actual >= 2 && (back == null || back.good)) {
                int d = b.gain * (e - b.last) / 100;
                d += b.reset * e / 100;
                if (back != null && (d > 0 && back.limit == 2 || d < 0 && back.limit == 1)) {
                    d = 0;
                }
                b.out = cut(b.out + d);
            }
            if (b.actual != 0) {
                b.last = e;
            }
            b.good = b.actual != 0;
            if (back != null && back.good && back.limit != 0) {
                b.limit = back.limit;
            } else {
                b.limit = b.out == 1000 ? 2 : b.out == 0 ? 1 : 0;
            }
        }

        void off(int device) {
            on.remove(device);
            if (scheduler != null && scheduler == device) {
                scheduler = null;
                wait = over;
            }
        }

        boolean canTarget(int block, int mode) {
            if (block < 0 || block >= blocks.size() || mode < 0 || mode > 3) {
                return false;
            }
            Block b = blocks.get(block);
            return (mode != 3 || b.kind == PID || b.kind == OUTPUT) && b.target != mode;
        }

        /** 0 nothing, 1 OUT, 2 SETPOINT. */
        int canHand(int block, int value) {
            if (block < 0 || block >= blocks.size() || value < 0 || value > 1000) {
                return 0;
            }
            Block b = blocks.get(block);
            if (b.actual == 1) {
                return 1;
            }
            return b.actual == 2 && (b.kind == PID || b.kind == OUTPUT) ? 2 : 0;
        }

        int doHand(int block, int value) {
            Block b = blocks.get(block);
            int was;
            if (b.actual == 1) {
                was = b.out;
                b.out = value;
            } else {
                was = b.setpoint;
                b.setpoint = value;
            }
            return was;
        }
    }

    /** Thrown at a TEXT's first FAULT. */
    static final class Fault extends RuntimeException {
        private static final long serialVersionUID = 1L;
        final int kind;
        final int place;

        Fault(int kind, int place) {
            super(null, null, false, false);
            this.kind = kind;
            this.place = place;
        }
    }

    /** One TEXT's tokens, read one behind another. */
    static final class Text {
        final String text;
        int next = 0;
        int place;
        String token;
        final World w = new World();

        Text(String text) {
            this.text = text;
        }

        boolean more() {
            while (next < text.length() && (text.charAt(next) == ' ' || text.charAt(next) == '\n')) {
                next++;
            }
            return next < text.length();
        }

        String take() {
            place = more() ? next : text.length();
            String rest = text.substring(place);
            java.util.regex.Matcher m = java.util.regex.Pattern.compile("[a-z]+|[0-9]+|;").matcher(rest);
            token = m.lookingAt() ? m.group() : "";
            next = place + token.length();
            return token;
        }

        Fault bad(int kind) {
            return new Fault(kind, place);
        }

        int number(int least, int most) {
            take();
            if (!token.matches("[0-9]+")) {
                throw bad(1);
            }
            if (token.length() > 4 || Integer.parseInt(token) < least || Integer.parseInt(token) > most) {
                throw bad(2);
            }
            return Integer.parseInt(token);
        }

        int blockNumber() {
            int b = number(0, 9);
            if (b >= w.blocks.size()) {
                throw bad(3);
            }
            return b;
        }

        String word(String... words) {
            take();
            for (String word : words) {
                if (word.equals(token)) {
                    return word;
                }
            }
            throw bad(1);
        }

        World read() {
            Set<String> told = new HashSet<>();
            while (more()) {
                String clause = word("devices", "block", "link", "plant", "old", "over");
                switch (clause) {
                    case "devices" -> {
                        if (!told.isEmpty()) {
                            throw bad(4);
                        }
                        w.devices = number(1, 5);
                    }
                    case "block" -> readBlock();
                    case "link" -> readLink();
                    case "plant" -> readPlant();
                    case "old" -> {
                        if (told.contains("old")) {
                            throw bad(4);
                        }
                        w.old = number(1, 9);
                    }
                    default -> {
                        if (told.contains("over")) {
                            throw bad(4);
                        }
                        w.over = number(0, 9);
                    }
                }
                told.add(clause);
                word(";");
            }
            w.begin();
            return w;
        }

        void readBlock() {
            if (w.blocks.size() == 10) {
                throw bad(2);
            }
            Block b = new Block();
            b.device = number(0, 4);
            if (b.device >= w.devices) {
                throw bad(3);
            }
            b.time = number(1, 9);
            switch (word("input", "pid", "output", "pick")) {
                case "input" -> {
                    b.kind = INPUT;
                    b.sensor = number(0, 3);
                }
                case "pid" -> {
                    b.kind = PID;
                    b.gain = number(0, 300);
                    b.reset = number(0, 100);
                    b.falls = word("man", "auto").equals("man") ? 1 : 2;
                    b.stays = word("back", "stays").equals("stays");
                }
                case "output" -> {
                    b.kind = OUTPUT;
                    b.actuator = number(0, 3);
                    b.rate = number(1, 1000);
                }
                default -> {
                    b.kind = PICK;
                    b.most = word("most", "least").equals("most");
                }
            }
            w.blocks.add(b);
        }

        void readLink() {
            if (w.links.size() == 12) {
                throw bad(2);
            }
            Link l = new Link();
            l.from = blockNumber();
            l.to = blockNumber();
            l.where = word("value", "other", "set");
            int to = w.blocks.get(l.to).kind;
            boolean has = switch (l.where) {
                case "value" -> to == PID || to == PICK;
                case "other" -> to == PICK;
                default -> (to == PID || to == OUTPUT) && w.blocks.get(l.from).kind == PID;
            };
            if (!has) {
                throw bad(3);
            }
            for (Link x : w.links) {
                if (x.to == l.to && x.where.equals(l.where)) {
                    throw bad(5);
                }
                if (x.from == l.from && x.where.equals("set") && l.where.equals("set")) {
                    throw bad(5);
                }
            }
            Deque<Integer> open = new ArrayDeque<>(List.of(l.to));
            Set<Integer> seen = new HashSet<>();
            while (!open.isEmpty()) {
                int b = open.pop();
                if (b == l.from) {
                    throw bad(5);
                }
                if (seen.add(b)) {
                    for (Link x : w.links) {
                        if (x.from == b) {
                            open.push(x.to);
                        }
                    }
                }
            }
            w.links.add(l);
        }

        void readPlant() {
            int sensor = number(0, 3);
            if (w.plants.containsKey(sensor)) {
                throw bad(4);
            }
            w.plants.put(sensor, new int[] {number(0, 3), number(0, 300), number(1, 50)});
        }
    }

    private StringBuilder tape = new StringBuilder();
    private int faultAt = -1;
    private World world = new World();
    private List<World> acts = new ArrayList<>();
    private List<int[]> noted = new ArrayList<>();
    private int[] status = new int[3];
    private World keptWorld = null;
    private List<World> keptActs;
    private List<int[]> keptNoted;
    private int[] keptStatus;

    Model() {
        world.begin();
    }

    int feed(int a, int b, int c, int d, int e) {
        if (tape.length() + 20 > 900) {
            return -1;
        }
        for (int n : new int[] {a, b, c, d, e}) {
            tape.append((char) (n >>> 24)).append((char) (n >> 16 & 255)).append((char) (n >> 8 & 255))
                    .append((char) (n & 255));
        }
        return tape.length();
    }

    int bus(int n) {
        if (n < 0 || n > tape.length()) {
            throw new IllegalArgumentException();
        }
        String text = tape.substring(0, n);
        tape.setLength(0);
        try {
            world = new Text(text).read();
        } catch (Fault f) {
            faultAt = f.place;
            status[0]++;
            return f.kind;
        }
        faultAt = -1;
        acts.clear();
        noted.clear();
        keptWorld = null;
        return 0;
    }

    int fault() {
        return faultAt;
    }

    static int bits(Set<Integer> set) {
        int bits = 0;
        for (int k : set) {
            bits += 1 << k;
        }
        return bits;
    }

    private Block need(int block) {
        if (block < 0 || block >= world.blocks.size()) {
            throw new NoSuchElementException();
        }
        return world.blocks.get(block);
    }

    private static void range(int n, int least, int most) {
        if (n < least || n > most) {
            throw new IllegalArgumentException();
        }
    }

    private static int pick(int what, int... of) {
        if (what < 0 || what >= of.length) {
            throw new NoSuchElementException();
        }
        return of[what];
    }

    int count(int what) {
        int slots = 0;
        for (Link l : world.links) {
            slots += (l.slot >= 0 ? 1 : 0) + (l.backSlot >= 0 ? 1 : 0);
        }
        return pick(what, world.devices, world.blocks.size(), world.links.size(), world.time,
                world.scheduler == null ? -1 : world.scheduler, world.scheduler == null ? world.wait : 0,
                bits(world.on), world.length, slots, bits(world.broken), acts.size(), noted.size(), tape.length(),
                status[0], status[1], status[2]);
    }

    private static int one(boolean is) {
        return is ? 1 : 0;
    }

    int block(int block, int what) {
        Block b = need(block);
        return pick(what, b.kind, b.device, b.time, b.start, b.end, b.target, b.actual, b.setpoint, b.out, b.last,
                one(b.good), b.limit, one(b.ack), b.turn);
    }

    int link(int link, int what) {
        if (link < 0 || link >= world.links.size()) {
            throw new NoSuchElementException();
        }
        Link l = world.links.get(link);
        int answer = pick(what, l.from, l.to, List.of("value", "other", "set").indexOf(l.where), l.slot, l.forth.value,
                one(l.forth.good), l.forth.limit, one(l.forth.sign), l.forth.age, l.backSlot, l.back.value,
                one(l.back.good), l.back.limit, one(l.back.sign), l.back.age);
        return what >= 9 && !l.where.equals("set") ? -1 : answer;
    }

    int plant(int number, int what) {
        if (number < 0 || number > 3) {
            throw new NoSuchElementException();
        }
        return pick(what, world.sensors[number], world.plants.getOrDefault(number, new int[] {-1})[0],
                world.outOf(number));
    }

    private int refuse() {
        status[1]++;
        return -1;
    }

    private void keep() {
        acts.add(world.copy());
        if (acts.size() > 40) {
            acts.remove(0);
        }
    }

    int target(int block, int mode) {
        if (!world.canTarget(block, mode)) {
            return refuse();
        }
        keep();
        int was = world.blocks.get(block).target;
        world.blocks.get(block).target = mode;
        return was;
    }

    int hand(int block, int value) {
        if (world.canHand(block, value) == 0) {
            return refuse();
        }
        keep();
        return world.doHand(block, value);
    }

    int power(int device, boolean on) {
        if (device < 0 || device >= world.devices || world.on.contains(device) == on) {
            return refuse();
        }
        keep();
        if (on) {
            world.on.add(device);
        } else {
            world.off(device);
        }
        return bits(world.on);
    }

    int broken(int sensor, boolean is) {
        if (sensor < 0 || sensor > 3 || world.broken.contains(sensor) == is) {
            return refuse();
        }
        keep();
        if (is) {
            world.broken.add(sensor);
        } else {
            world.broken.remove(sensor);
        }
        return bits(world.broken);
    }

    int cycles(int many) {
        if (many < 1 || many > 30 || world.time + many > 2000) {
            return refuse();
        }
        keep();
        for (int k = 0; k < many; k++) {
            world.cycle();
        }
        return world.time;
    }

    int undo() {
        if (acts.isEmpty()) {
            return -1;
        }
        world = acts.remove(acts.size() - 1);
        return acts.size();
    }

    /** As it is now, and behind each of so many CYCLES. */
    private static List<World> run(World from, int cycles) {
        List<World> all = new ArrayList<>();
        World w = from.copy();
        all.add(w);
        for (int k = 0; k < cycles; k++) {
            w = w.copy();
            w.cycle();
            all.add(w);
        }
        return all;
    }

    int then(int block, int cycles, int what) {
        need(block);
        pick(what, 0, 0, 0, 0, 0, 0);
        range(cycles, 0, 60);
        Block b = run(world, cycles).get(cycles).blocks.get(block);
        return pick(what, b.out, b.actual, b.setpoint, one(b.good), b.limit, b.target);
    }

    int first(int block) {
        int now = need(block).actual;
        List<World> all = run(world, 60);
        for (int k = 1; k <= 60; k++) {
            if (all.get(k).blocks.get(block).actual != now) {
                return k;
            }
        }
        return -1;
    }

    int jump(int block, int cycles) {
        need(block);
        range(cycles, 1, 60);
        List<World> all = run(world, cycles);
        int most = 0;
        for (int k = 1; k <= cycles; k++) {
            most = Math.max(most, Math.abs(all.get(k).blocks.get(block).out - all.get(k - 1).blocks.get(block).out));
        }
        return most;
    }

    private static Set<Integer> unlike(World a, World b, int cycles) {
        List<World> as = run(a, cycles);
        List<World> bs = run(b, cycles);
        Set<Integer> unlike = new TreeSet<>();
        for (int k = 1; k <= cycles; k++) {
            for (int n = 0; n < a.blocks.size(); n++) {
                if (as.get(k).blocks.get(n).actual != bs.get(k).blocks.get(n).actual) {
                    unlike.add(n);
                }
            }
        }
        return unlike;
    }

    int lost(int device, int cycles) {
        if (device < 0 || device >= world.devices) {
            throw new NoSuchElementException();
        }
        range(cycles, 1, 30);
        World without = world.copy();
        without.off(device);
        return bits(unlike(world, without, cycles));
    }

    int toRide() {
        if (world.scheduler == null) {
            return -1;
        }
        for (int old = 1; old <= 9; old++) {
            World as = world.copy();
            as.old = old;
            World without = as.copy();
            without.off(world.scheduler);
            boolean rides = true;
            for (int b : unlike(as, without, 20)) {
                rides &= world.blocks.get(b).device == world.scheduler;
            }
            if (rides) {
                return old;
            }
        }
        return -1;
    }

    int toTune(int block, int above, int cycles) {
        if (need(block).kind != PID) {
            throw new NoSuchElementException();
        }
        range(above, 0, 1000);
        range(cycles, 1, 30);
        int best = -1;
        for (int gain = 0; gain <= 300; gain++) {
            World w = world.copy();
            w.blocks.get(block).gain = gain;
            boolean fine = true;
            for (int k = 0; k < cycles && fine; k++) {
                w.cycle();
                fine = w.way(block, "value").value - w.blocks.get(block).setpoint <= above;
            }
            best = fine ? gain : best;
        }
        return best;
    }

    int slack(int block) {
        need(block);
        int best = 0;
        for (int more = 0; more <= 50; more++) {
            World w = world.copy();
            w.blocks.get(block).time += more;
            w.lay();
            best = w.length == world.length ? more : best;
        }
        return best;
    }

    int note(int block, int cycles, int mode) {
        if (noted.size() == 6 || block < 0 || block >= world.blocks.size() || cycles < 1 || cycles > 20 || mode < 0
                || mode > 3) {
            status[2]++;
            return -1;
        }
        noted.add(new int[] {block, cycles, mode});
        return noted.size();
    }

    private Map<Integer, World> causes() {
        Map<Integer, World> causes = new TreeMap<>();
        causes.put(0, world.copy());
        for (int d : world.on) {
            World w = world.copy();
            w.off(d);
            causes.put(1 + d, w);
        }
        for (Block b : world.blocks) {
            if (b.kind == INPUT && !world.broken.contains(b.sensor)) {
                World w = world.copy();
                w.broken.add(b.sensor);
                causes.put(6 + b.sensor, w);
            }
        }
        return causes;
    }

    private Map<Integer, World> fitting() {
        Map<Integer, World> fitting = new TreeMap<>();
        for (Map.Entry<Integer, World> e : causes().entrySet()) {
            List<World> all = run(e.getValue(), 20);
            boolean fits = true;
            for (int[] n : noted) {
                fits &= all.get(n[1]).blocks.get(n[0]).actual == n[2];
            }
            if (fits) {
                fitting.put(e.getKey(), all.get(8));
            }
        }
        return fitting;
    }

    int fits() {
        return bits(fitting().keySet());
    }

    int look(int what) {
        pick(what, 0, 0);
        int which = -1;
        int most = 0;
        for (int b = 0; b < world.blocks.size(); b++) {
            Set<Integer> modes = new HashSet<>();
            for (World w : fitting().values()) {
                modes.add(w.blocks.get(b).actual);
            }
            if (modes.size() > most) {
                which = b;
                most = modes.size();
            }
        }
        return what == 0 ? which : most;
    }

    void forget() {
        noted.clear();
    }

    private int seed;

    private int draw(int n) {
        seed = seed * 1103515245 + 12345;
        return (seed >>> 16 & 32767) % n;
    }

    int years(int from, int n, int what) {
        pick(what, 0, 0, 0);
        range(n, 0, 30);
        seed = from;
        World w = world.copy();
        w.came = 0;
        for (int k = 0; k < n; k++) {
            switch (draw(6)) {
                case 0, 1 -> {
                    int many = draw(5) + 1;
                    for (int c = 0; c < many; c++) {
                        w.cycle();
                    }
                }
                case 2 -> {
                    if (!w.blocks.isEmpty()) {
                        int b = draw(w.blocks.size());
                        int mode = draw(4);
                        if (w.canTarget(b, mode)) {
                            w.blocks.get(b).target = mode;
                        }
                    }
                }
                case 3 -> {
                    int d = draw(w.devices);
                    if (w.on.contains(d)) {
                        w.off(d);
                    } else {
                        w.on.add(d);
                    }
                }
                case 4 -> {
                    int s = draw(4);
                    if (!w.broken.remove(s)) {
                        w.broken.add(s);
                    }
                }
                default -> {
                    if (!w.blocks.isEmpty()) {
                        int b = draw(w.blocks.size());
                        int value = draw(1001);
                        if (w.canHand(b, value) != 0) {
                            w.doHand(b, value);
                        }
                    }
                }
            }
        }
        int sum = 0;
        for (Block b : w.blocks) {
            sum += b.out;
        }
        return pick(what, sum, bits(w.on), w.came);
    }

    private static List<World> copies(List<World> of) {
        List<World> all = new ArrayList<>();
        for (World w : of) {
            all.add(w.copy());
        }
        return all;
    }

    void image() {
        keptWorld = world.copy();
        keptActs = copies(acts);
        keptNoted = new ArrayList<>(noted);
        keptStatus = status.clone();
    }

    boolean restore() {
        if (keptWorld == null) {
            return false;
        }
        world = keptWorld.copy();
        acts = copies(keptActs);
        noted = new ArrayList<>(keptNoted);
        status = keptStatus.clone();
        return true;
    }
}
