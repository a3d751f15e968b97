import java.util.ArrayList;
import java.util.Arrays;
import java.util.List;
import java.util.Random;

/** Long runs of drawn calls on CascadeBus and on the Model: every answer, and all that can be seen, is the same. */
public final class ModelTest {
    private static final int RUNS = 400;
    private static final int CALLS = 150;
    private static final int TEXTS = 6000;

    private final Random random;
    private final CascadeBus bus = new CascadeBus();
    private final Model model = new Model();
    private final String name;
    private int blocks = 0;

    private ModelTest(int seed) {
        random = new Random(seed);
        name = "seed " + seed + ": ";
    }

    public static void main(String[] args) {
        for (int seed = 0; seed < RUNS; seed++) {
            new ModelTest(seed).play();
        }
        new ModelTest(-1).tellBrokenTexts();
        Check.end("ModelTest");
    }

    private int draw(int of) {
        return random.nextInt(of);
    }

    private int near(int most) {
        return draw(most + 4) - 2;
    }

    private int block() {
        return draw(12) == 0 ? draw(14) - 2 : draw(Math.max(1, blocks));
    }

    private String text() {
        StringBuilder text = new StringBuilder();
        int devices = 2;
        if (draw(3) > 0) {
            devices = 1 + draw(5);
            text.append("devices ").append(devices).append(";");
        }
        if (draw(3) == 0) {
            text.append("old ").append(1 + draw(9)).append(" ;\n");
        }
        if (draw(3) == 0) {
            text.append("over ").append(draw(10)).append(";");
        }
        blocks = 2 + draw(9);
        int[] kinds = new int[blocks];
        for (int b = 0; b < blocks; b++) {
            kinds[b] = draw(5) == 0 ? 3 : draw(3);
            text.append("block ").append(draw(devices)).append(' ').append(1 + draw(9)).append(' ').append(kind(kinds[b]));
        }
        appendLinks(text, kinds);
        for (int sensor = 0; sensor < 4; sensor++) {
            if (draw(3) > 0) {
                text.append("plant ").append(sensor).append(' ').append(draw(4)).append(' ').append(draw(301)).append(' ')
                        .append(1 + draw(draw(2) == 0 ? 5 : 50)).append(';');
            }
        }
        return text.toString();
    }

    private String kind(int kind) {
        switch (kind) {
            case 0: return "input " + draw(4) + ";";
            case 1: return "pid " + draw(301) + " " + draw(101) + (draw(2) == 0 ? " man" : " auto")
                    + (draw(3) == 0 ? " stays;" : " back;");
            case 2: return "output " + draw(4) + " " + (1 + draw(draw(2) == 0 ? 50 : 1000)) + ";";
            default: return draw(2) == 0 ? "pick most;" : "pick least;";
        }
    }

    /** Along a drawn order, so that none comes ahead of itself, with most places linked. */
    private void appendLinks(StringBuilder text, int[] kinds) {
        List<Integer> order = new ArrayList<>();
        for (int b = 0; b < kinds.length; b++) {
            order.add(draw(order.size() + 1), b);
        }
        List<String> links = new ArrayList<>();
        boolean[] sets = new boolean[kinds.length];
        for (int k = 1; k < order.size(); k++) {
            int to = order.get(k);
            for (String where : new String[] {"value", "other", "set"}) {
                boolean has = where.equals("value") ? kinds[to] % 2 == 1 : where.equals("other") ? kinds[to] == 3
                        : kinds[to] == 1 || kinds[to] == 2;
                int from = order.get(draw(k));
                for (int tries = 0; tries < 8 && where.equals("set") && (kinds[from] != 1 || sets[from]); tries++) {
                    from = order.get(draw(k));
                }
                boolean can = !where.equals("set") || kinds[from] == 1 && !sets[from];
                if (has && can && draw(6) > 0) {
                    sets[from] |= where.equals("set");
                    links.add(draw(links.size() + 1), "link " + from + " " + to + " " + where + ";");
                }
            }
        }
        for (int k = 0; k < Math.min(12, links.size()); k++) {
            text.append(links.get(k));
        }
    }

    private int tell(String text) {
        int n = Check.tape(bus, text);
        byte[] bytes = text.getBytes(java.nio.charset.StandardCharsets.ISO_8859_1);
        for (int k = 0; k < bytes.length; k += 20) {
            model.feed(Check.word(bytes, k), Check.word(bytes, k + 4), Check.word(bytes, k + 8),
                    Check.word(bytes, k + 12), Check.word(bytes, k + 16));
        }
        int answer = bus.bus(n);
        Check.due(name + "bus of " + text, answer, model.bus(n));
        Check.due(name + "fault of " + text, bus.fault(), model.fault());
        return answer;
    }

    private void tellBrokenTexts() {
        int[] faults = new int[6];
        for (int k = 0; k < TEXTS; k++) {
            String text = text();
            int breaks = 1 + draw(3);
            for (int b = 0; b < breaks; b++) {
                text = brokenText(text);
            }
            if (text.length() <= 900) {
                faults[tell(text)]++;
            }
        }
        seeAll();
        for (int fault = 0; fault < faults.length; fault++) {
            Check.due(name + "FAULT " + fault + " comes up", faults[fault] > 20, true);
        }
    }

    private String brokenText(String text) {
        if (text.isEmpty()) {
            return "old";
        }
        List<String> clauses = new ArrayList<>(Arrays.asList(text.split("(?<=;)")));
        int at = draw(text.length());
        String[] words = {"devices", "block", "link", "plant", "old", "over", "input", "pid", "output", "pick", "man",
            "auto", "back", "stays", "most", "least", "value", "other", "set", ";", "0", "1", "9", "10", "301", "00001",
            "0001", "5", "4", "7", "x", "A", "\n", " ", "\u00e9", "links"};
        String word = words[draw(words.length)];
        switch (draw(5)) {
            case 0: return text.substring(0, at) + text.substring(at + 1);
            case 1: return text.substring(0, at);
            case 2: return text.substring(0, at) + word + text.substring(at);
            case 3: {
                String clause = clauses.get(draw(clauses.size()));
                clauses.add(draw(clauses.size() + 1), clause);
                return String.join("", clauses);
            }
            default: {
                String[] tokens = clauses.get(draw(clauses.size())).split(" ");
                int which = draw(tokens.length);
                String old = String.join(" ", tokens);
                tokens[which] = tokens[which].endsWith(";") ? word + ";" : word;
                return text.replace(old, String.join(" ", tokens));
            }
        }
    }

    private void play() {
        if (draw(20) > 0) {
            Check.due(name + "a sound text", tell(text()), 0);
        }
        seeAll();
        for (int k = 0; k < CALLS; k++) {
            if (draw(3) > 0) {
                act();
            } else {
                ask();
            }
            if (draw(120) == 0) {
                tell(draw(2) == 0 ? text() : brokenText(text()));
                blocks = bus.count(1);
            }
            seeAll();
        }
    }

    private void act() {
        int b = block();
        int n;
        boolean is = draw(2) == 0;
        switch (draw(13)) {
            case 0: n = near(3); Check.due(name + "target", bus.target(b, n), model.target(b, n)); break;
            case 1: n = draw(2) == 0 ? near(1000) : draw(1001);
                Check.due(name + "hand", bus.hand(b, n), model.hand(b, n)); break;
            case 2: n = near(4); Check.due(name + "power", bus.power(n, is), model.power(n, is)); break;
            case 3: n = near(3); Check.due(name + "broken", bus.broken(n, is), model.broken(n, is)); break;
            case 4: case 5: case 6: Check.due(name + "cycles", bus.cycles(1), model.cycles(1)); break;
            case 7: case 8: n = near(30); Check.due(name + "cycles", bus.cycles(n), model.cycles(n)); break;
            case 9: Check.due(name + "undo", bus.undo(), model.undo()); break;
            case 10: n = near(20); {
                int mode = draw(3) > 0 && n >= 1 && n <= 60 && b >= 0 && b < bus.count(1) ? bus.then(b, n, 1) : near(3);
                Check.due(name + "note", bus.note(b, n, mode), model.note(b, n, mode));
            } break;
            case 11: if (draw(3) == 0) {
                bus.forget();
                model.forget();
            } break;
            default: if (draw(2) == 0) {
                bus.image();
                model.image();
            } else {
                Check.due(name + "restore", bus.restore(), model.restore());
            } break;
        }
    }

    private void ask() {
        int b = block();
        int n;
        int w;
        switch (draw(11)) {
            case 0: n = near(60); w = near(5);
                Check.due(name + "then", Check.answer(() -> bus.then(b, n, w)), Check.answer(() -> model.then(b, n, w)));
                break;
            case 1: Check.due(name + "first", Check.answer(() -> bus.first(b)), Check.answer(() -> model.first(b))); break;
            case 2: n = near(60);
                Check.due(name + "jump", Check.answer(() -> bus.jump(b, n)), Check.answer(() -> model.jump(b, n))); break;
            case 3: n = near(30); w = near(4);
                Check.due(name + "lost", Check.answer(() -> bus.lost(w, n)), Check.answer(() -> model.lost(w, n))); break;
            case 4: Check.due(name + "toRide", bus.toRide(), model.toRide()); break;
            case 5: n = near(30); w = draw(4) == 0 ? near(1000) : draw(120);
                Check.due(name + "toTune", Check.answer(() -> bus.toTune(b, w, n)),
                        Check.answer(() -> model.toTune(b, w, n)));
                break;
            case 6: Check.due(name + "slack", Check.answer(() -> bus.slack(b)), Check.answer(() -> model.slack(b))); break;
            case 7: Check.due(name + "fits", bus.fits(), model.fits()); break;
            case 8: case 9: w = near(1);
                Check.due(name + "look", Check.answer(() -> bus.look(w)), Check.answer(() -> model.look(w))); break;
            default: n = near(30); w = near(2); {
                int seed = random.nextInt();
                Check.due(name + "years", Check.answer(() -> bus.years(seed, n, w)),
                        Check.answer(() -> model.years(seed, n, w)));
            } break;
        }
    }

    private void seeAll() {
        for (int what = -1; what <= 16; what++) {
            int w = what;
            Check.due(name + "count " + w, Check.answer(() -> bus.count(w)), Check.answer(() -> model.count(w)));
        }
        for (int b = 0; b <= bus.count(1); b++) {
            for (int what = 0; what <= 14; what++) {
                int k = b;
                int w = what;
                Check.due(name + "block " + k + " " + w, Check.answer(() -> bus.block(k, w)),
                        Check.answer(() -> model.block(k, w)));
            }
        }
        for (int l = 0; l <= bus.count(2); l++) {
            for (int what = 0; what <= 15; what++) {
                int k = l;
                int w = what;
                Check.due(name + "link " + k + " " + w, Check.answer(() -> bus.link(k, w)),
                        Check.answer(() -> model.link(k, w)));
            }
        }
        for (int s = 0; s <= 4; s++) {
            for (int what = 0; what <= 3; what++) {
                int k = s;
                int w = what;
                Check.due(name + "plant " + k + " " + w, Check.answer(() -> bus.plant(k, w)),
                        Check.answer(() -> model.plant(k, w)));
            }
        }
    }
}
