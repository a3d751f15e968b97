import java.nio.charset.StandardCharsets;
import java.util.ArrayList;
import java.util.List;

/** Each sentence about the tape, a TEXT and its FAULTS that names an edge; promises 1 to 4 and the terms' part 1. */
public final class TextEdgeTest {
    /** A BLOCK of each KIND, by its number. */
    private static final String[] KINDS = {"input 0", "pid 1 1 man back", "output 0 1", "pick most"};
    private static final String[] WHERES = {"value", "other", "set"};

    /** One CLAUSE of each form, by TOKENS; together they are a sound TEXT. */
    private static final String[][] CLAUSES = {
        {"devices", "3", ";"},
        {"block", "2", "1", "input", "3", ";"},
        {"block", "0", "9", "pid", "7", "8", "man", "back", ";"},
        {"block", "1", "5", "pid", "7", "8", "auto", "stays", ";"},
        {"block", "0", "2", "output", "1", "6", ";"},
        {"block", "0", "2", "pick", "most", ";"},
        {"block", "0", "2", "pick", "least", ";"},
        {"link", "0", "1", "value", ";"},
        {"link", "0", "4", "other", ";"},
        {"link", "1", "2", "set", ";"},
        {"plant", "3", "1", "5", "4", ";"},
        {"old", "4", ";"},
        {"over", "5", ";"}};

    private TextEdgeTest() {
    }

    public static void main(String[] args) {
        newObject();
        tape();
        busRefuses();
        busTakesTheFirstBytes();
        busWithFault();
        busAnew();
        nothingIsLeft();
        faultOfTheLatest();
        devices();
        blocks();
        numbersOfBlocks();
        links();
        whereLinksGo();
        plants();
        oldAndOver();
        longestText();
        everyByte();
        words();
        digits();
        blanks();
        endsTooSoon();
        cannotStand();
        firstAlongTheText();
        leastOfOneToken();
        tooMuch();
        notThere();
        notSuchABlocks();
        toldAlready();
        linkedAlready();
        aheadOfItself();
        Check.end("TextEdgeTest");
    }

    private static void fault(String text, int fault, int place) {
        CascadeBus x = new CascadeBus();
        Check.due("FAULT of: " + text, Check.tell(x, text), fault);
        Check.due("its place in: " + text, x.fault(), place);
        Check.due("STATUS 0 behind: " + text, x.count(13), 1);
    }

    private static CascadeBus sound(String text) {
        CascadeBus x = new CascadeBus();
        Check.due("no FAULT of: " + text, Check.tell(x, text), 0);
        Check.due("no place in: " + text, x.fault(), -1);
        Check.due("no STATUS 0 behind: " + text, x.count(13), 0);
        return x;
    }

    private static String block(int kind) {
        return "block 0 1 " + KINDS[kind] + ";";
    }

    /** A NUMBER between two texts: the least and the most it may be, one less, one more, more digits than 4. */
    private static void range(String ahead, String behind, int least, int most) {
        sound(ahead + least + behind);
        sound(ahead + most + behind);
        sound(ahead + String.format("%04d", least) + behind);
        sound(ahead + String.format("%04d", most) + behind);
        if (least > 0) {
            fault(ahead + (least - 1) + behind, 2, ahead.length());
        }
        fault(ahead + (most + 1) + behind, 2, ahead.length());
        fault(ahead + "9999" + behind, 2, ahead.length());
        fault(ahead + String.format("%05d", least) + behind, 2, ahead.length());
        fault(ahead + String.format("%010d", most) + behind, 2, ahead.length());
        fault(ahead + "4294967296" + behind, 2, ahead.length());
        fault(ahead + "18446744073709551617" + behind, 2, ahead.length());
    }

    private static void newObject() {
        Check.says("Two DEVICES, no BLOCKS.");
        CascadeBus x = new CascadeBus();
        int[] counts = new int[16];
        for (int what = 0; what < 16; what++) {
            counts[what] = x.count(what);
        }
        Check.dueAll("count", counts, 2, 0, 0, 0, 0, 0, 3, 0, 0, 0, 0, 0, 0, 0, 0, 0);
        Check.noSuch("block 0", () -> x.block(0, 0));
        Check.noSuch("link 0", () -> x.link(0, 0));
        for (int port = 0; port < 4; port++) {
            Check.due("a SENSOR's value", x.plant(port, 0), 0);
            Check.due("no PLANT", x.plant(port, 1), CascadeBus.NONE);
            Check.due("an ACTUATOR's OUT", x.plant(port, 2), 0);
        }
        Check.due("fault", x.fault(), CascadeBus.NONE);
        Check.due("CYCLES go by all the same", x.cycles(30), 30);
        Check.due("the SCHEDULER stays", x.count(4), 0);
        x.power(0, false);
        Check.due("OVER is 2", x.count(5), 2);
    }

    private static void tape() {
        Check.says("Twenty bytes come behind the tape, of each number the highest first: how many it has");
        CascadeBus x = new CascadeBus();
        // "over", " 0 ;", "old ", "0009", "; ;;", and the last two signs are read only by the second bus
        Check.due("feed", x.feed(0x6f766572, 0x2030203b, 0x6f6c6420, 0x30303039, 0x3b203b3b), 20);
        Check.due("bytes of the tape", x.count(12), 20);
        Check.due("bus", x.bus(18), 0);
        x.power(0, false);
        Check.due("OVER as fed", x.count(5), 0);
        x.feed(0x6f766572, 0x2030203b, 0x6f6c6420, 0x30303039, 0x3b203b3b);
        Check.due("bus", x.bus(19), 1);
        Check.due("the 19th byte", x.fault(), 18);
        Check.says("NONE, and none come, if it would have more than 900.");
        CascadeBus y = new CascadeBus();
        for (int k = 1; k <= 44; k++) {
            y.feed(0x20202020, 0x20202020, 0x20202020, 0x20202020, 0x20202020);
        }
        Check.due("880", y.count(12), 880);
        Check.due("900 are not more", y.feed(0x20202020, 0x20202020, 0x20202020, 0x20202020, 0x2020203b), 900);
        for (int k = 0; k < 3; k++) {
            Check.due("920 are", y.feed(-1, -1, -1, -1, -1), CascadeBus.NONE);
            Check.due("none came", y.count(12), 900);
        }
        Check.dueAll("no STATUS", Check.status(y), 0, 0, 0);
        Check.due("the 900th is as it was", y.bus(900), 1);
        Check.due("at the 900th", y.fault(), 899);
        Check.due("room again", y.feed(0, 0, 0, 0, 0), 20);
    }

    private static void busRefuses() {
        Check.says("IllegalArgumentException: the tape has not so many, n below 0 (nothing changes).");
        CascadeBus x = sound("devices 3;old 1;" + block(0));
        Check.tell(x, "over 10;");
        x.cycles(2);
        x.note(0, 1, 1);
        x.image();
        Check.tape(x, "over 9;");
        int[] before = Check.picture(x);
        for (int n : new int[] {21, 22, 900, 901, Integer.MAX_VALUE, -1, -2, -20, Integer.MIN_VALUE}) {
            Check.illegal("bus " + n, () -> x.bus(n));
        }
        Check.same("nothing changes", Check.picture(x), before);
        Check.due("the tape stays", x.count(12), 20);
        Check.due("the FAULT's place stays", x.fault(), 5);
        Check.dueAll("STATUS stays", Check.status(x), 1, 0, 0);
        Check.due("the image stays", x.restore(), true);
        Check.due("all it has can be read", x.bus(20), 0);
        Check.illegal("an empty tape has not 1", () -> x.bus(1));
        Check.due("but 0", x.bus(0), 0);
    }

    private static void busTakesTheFirstBytes() {
        Check.says("The tape's first n bytes (it is empty then) are a TEXT, all anew (TIME 0)");
        CascadeBus x = new CascadeBus();
        Check.tape(x, "devices 5;devices 5;devices 5;");
        Check.due("ten of them", x.bus(10), 0);
        Check.due("DEVICES", x.count(0), 5);
        Check.due("the tape is empty", x.count(12), 0);
        Check.illegal("nothing is left of it", () -> x.bus(1));
        Check.tape(x, "devices 5;devices 5;devices 5;");
        Check.due("eleven: a word that ends too soon", x.bus(11), 1);
        Check.due("at its first byte", x.fault(), 10);
        Check.due("the tape is empty behind a FAULT, too", x.count(12), 0);
        Check.illegal("nothing is left of it", () -> x.bus(1));
        Check.tape(x, "devices 4;");
        Check.due("a TEXT of no bytes", x.bus(0), 0);
        Check.due("two DEVICES", x.count(0), 2);
        Check.due("the tape is empty", x.count(12), 0);
        Check.tape(x, "devices 1;");
        Check.due("what comes then is read from its start", x.bus(10), 0);
        Check.due("DEVICES", x.count(0), 1);
    }

    private static CascadeBus used() {
        CascadeBus x = sound("devices 3;old 1;over 4;block 0 1 input 0;block 0 2 pid 100 10 man back;"
                + "block 1 1 output 0 50;link 0 1 value;link 1 2 set;plant 0 0 100 1;");
        x.cycles(1);
        x.hand(1, 300);
        x.cycles(7);
        x.broken(2, true);
        x.power(0, false);
        x.cycles(1);
        x.note(1, 2, 2);
        x.target(3, 1);
        x.cycles(31);
        x.note(0, 0, 0);
        x.image();
        return x;
    }

    private static void busWithFault() {
        Check.says("0, or the FAULT (all stays, but STATUS).");
        String[] texts = {"x", "devices 6;", "devices 1;block 1 1 input 0;", "old 1;old 1;",
            block(1) + "link 0 0 value;"};
        CascadeBus x = used();
        int[] before = Check.picture(x);
        for (int fault = 1; fault <= 5; fault++) {
            Check.due("bus", Check.tell(x, texts[fault - 1]), fault);
            Check.same("all stays", Check.picture(x), before);
            Check.dueAll("STATUS", Check.status(x), fault, 2, 1);
        }
        Check.due("what comes is as it was", x.then(2, 9, 0), used().then(2, 9, 0));
        Check.due("OVER and OLD, too", x.toRide(), used().toRide());
        Check.due("ACTS can be undone", x.undo(), 5);
        Check.due("the image is kept", x.restore(), true);
        Check.same("as it was", Check.picture(x), before);
        Check.dueAll("STATUS as it was, too", Check.status(x), 0, 2, 1);
    }

    private static void busAnew() {
        Check.says("ACTS, what is NOTED, the image are gone.");
        String text = "devices 3;block 2 4 pid 5 6 auto stays;plant 1 1 7 8;";
        for (String told : new String[] {text, "", " \n"}) {
            CascadeBus x = used();
            Check.due("bus", Check.tell(x, told), 0);
            Check.same("all anew", Check.picture(x), Check.picture(sound(told)));
            Check.due("TIME", x.count(3), 0);
            Check.due("no ACTS", x.count(10), 0);
            Check.due("none to undo", x.undo(), CascadeBus.NONE);
            Check.due("nothing NOTED", x.count(11), 0);
            Check.due("no image", x.restore(), false);
            Check.dueAll("STATUS goes on", Check.status(x), 0, 2, 1);
            Check.due("OVER as at first", x.power(0, false) >= 0 ? x.count(5) : -9, 2);
        }
    }

    private static void nothingIsLeft() {
        Check.says("are a TEXT, all anew (TIME 0)");
        String much = "devices 5;old 9;over 9;" + block(1) + "block 4 9 pick least;" + block(2) + block(0)
                + "block 3 5 pick most;link 1 4 value;link 0 2 set;link 3 1 other;plant 0 0 300 1;plant 3 3 9 9;";
        String[] little = {"", block(0), block(0) + block(1) + "link 0 1 value;", block(0) + block(3) + block(3)
                + "link 1 2 value;link 2 1 value;", block(3).repeat(5) + "link 4 1 value;link 0 4 other;link 2 3 value;",
            "block 0 1 input 2;block 1 1 pid 0 0 auto back;link 0 1 value;"};
        for (String text : little) {
            CascadeBus fresh = new CascadeBus();
            int due = Check.tell(fresh, text);
            // The same TEXT thrice: whatever an object keeps of those ahead, it has met it.
            CascadeBus x = new CascadeBus();
            for (int k = 0; k < 3; k++) {
                Check.due("a TEXT that tells much", Check.tell(x, much), 0);
                Check.due("one that tells more, with a FAULT", Check.tell(x, much + block(1).repeat(4) + "?"), 1);
                for (int again = 0; again < 3; again++) {
                    Check.due("FAULT of: " + text, Check.tell(x, text), due);
                    Check.due("its place", x.fault(), fresh.fault());
                }
                if (due == 0) {
                    Check.same("nothing of it is left", Check.picture(x), Check.picture(fresh));
                    Check.due("OVER", overOf(x), overOf(fresh));
                    Check.due("OLD", x.toRide(), fresh.toRide());
                }
            }
        }
        CascadeBus y = new CascadeBus();
        for (int k = 0; k < 4; k++) {
            Check.tell(y, "old 9;over 9;x");
            Check.tell(y, "block 1 1 input 0;block 0 1 pick most;link 0 1 value;");
            y.cycles(1);
            y.power(1, false);
            y.cycles(3);
            Check.due("AGE 3 isn't above OLD", y.link(0, 5), 1);
            y.cycles(1);
            Check.due("OLD is 3 without", y.link(0, 5), 0);
        }
    }

    private static int overOf(CascadeBus x) {
        x.power(0, false);
        int over = x.count(5);
        x.undo();
        return over;
    }

    private static void faultOfTheLatest() {
        Check.says("The place of the latest bus()'s FAULT; NONE without.");
        CascadeBus x = new CascadeBus();
        Check.due("without any bus()", x.fault(), CascadeBus.NONE);
        Check.tell(x, "old 1;x");
        Check.due("the first", x.fault(), 6);
        Check.due("asked again", x.fault(), 6);
        Check.tell(x, "x");
        Check.due("the latest", x.fault(), 0);
        Check.tell(x, "old 1;");
        Check.due("a sound one", x.fault(), CascadeBus.NONE);
        Check.tell(x, "old");
        x.image();
        x.cycles(1);
        x.restore();
        Check.due("no part of the image", x.fault(), 3);
    }

    private static void devices() {
        Check.says("DEVICES 0, 1 .. (1 to 5; 2 without).");
        range("devices ", ";", 1, 5);
        Check.due("without", sound("old 1;").count(0), 2);
        for (int many = 1; many <= 5; many++) {
            CascadeBus x = sound("devices " + many + ";");
            Check.due("DEVICES", x.count(0), many);
            Check.due("all ON", x.count(6), (1 << many) - 1);
            Check.due("the last one", x.power(many - 1, false), (1 << many - 1) - 1);
            Check.due("one more", x.power(many, false), CascadeBus.NONE);
        }
    }

    private static void blocks() {
        Check.says("BLOCKS 0, 1 .. (at most 10)");
        CascadeBus x = sound(block(0).repeat(9) + block(1));
        Check.due("ten", x.count(1), 10);
        Check.due("the last is there", x.block(9, 0), 1);
        Check.noSuch("not one more", () -> x.block(10, 0));
        String ten = block(3).repeat(10);
        fault(ten + block(3), 2, ten.length());
        fault(ten + "old 1;" + block(0), 2, ten.length() + 6);
        fault(ten + "block", 2, ten.length());
        fault(ten + "block 9 0 x", 2, ten.length());
    }

    private static void numbersOfBlocks() {
        Check.says("each in a DEVICE, of a TIME (1 to 9)");
        range("devices 5;block ", " 1 pick most;", 0, 4);
        range("block 0 ", " pick most;", 1, 9);
        for (int d = 0; d < 5; d++) {
            CascadeBus x = sound("devices 5;block " + d + " " + (9 - d) + " pick most;");
            Check.due("DEVICE", x.block(0, 1), d);
            Check.due("TIME", x.block(0, 2), 9 - d);
        }
        Check.says("0 INPUT (of a SENSOR 0 to 3)");
        range("block 0 1 input ", ";", 0, 3);
        Check.says("1 PID (GAIN 0 to 300, RESET 0 to 100; it FALLS to MAN or to AUTO, and comes BACK, or STAYS there)");
        range("block 0 1 pid ", " 1 man back;", 0, 300);
        range("block 0 1 pid 1 ", " auto stays;", 0, 100);
        Check.says("2 OUTPUT (to an ACTUATOR 0 to 3, of a RATE, 1 to 1000)");
        range("block 0 1 output ", " 1;", 0, 3);
        range("block 0 1 output 3 ", ";", 1, 1000);
        Check.says("3 PICK (the MOST, or the LEAST)");
        for (int kind = 0; kind < 4; kind++) {
            Check.due("KIND", sound(block(kind)).block(0, 0), kind);
        }
        sound("block 0 1 pick least;");
        fault("block 0 1 pick;", 1, 14);
        fault("block 0 1 pick more;", 1, 15);
    }

    private static void links() {
        Check.says("LINKS 0, 1 .. (at most 12)");
        StringBuilder twelve = new StringBuilder(block(3).repeat(7));
        for (int k = 1; k <= 6; k++) {
            twelve.append("link 0 ").append(k).append(" value;link 0 ").append(k).append(" other;");
        }
        CascadeBus x = sound(twelve.toString());
        Check.due("twelve", x.count(2), 12);
        Check.due("the last goes to", x.link(11, 1), 6);
        Check.noSuch("not one more", () -> x.link(12, 0));
        fault(twelve + "link 0 0 value;", 2, twelve.length());
        fault(twelve + "link", 2, twelve.length());
        fault(twelve + " old 1;link 99999", 2, twelve.length() + 7);
    }

    private static void whereLinksGo() {
        Check.says("from a BLOCK to another one's VALUE (of PID, PICK), OTHER (of PICK) or SET"
                + " (of PID, OUTPUT; from a PID alone)");
        boolean[][] has = {{false, true, false, true}, {false, false, false, true}, {false, true, true, false}};
        for (int from = 0; from < 4; from++) {
            for (int to = 0; to < 4; to++) {
                for (int where = 0; where < 3; where++) {
                    String two = block(from) + block(to) + "link 0 1 ";
                    if (has[where][to] && (where != 2 || from == 1)) {
                        CascadeBus x = sound(two + WHERES[where] + ";");
                        Check.due("from", x.link(0, 0), 0);
                        Check.due("to", x.link(0, 1), 1);
                        Check.due("where", x.link(0, 2), where);
                    } else {
                        fault(two + WHERES[where] + ";", 3, two.length());
                    }
                }
            }
        }
    }

    private static void plants() {
        Check.says("a SENSOR hangs on an ACTUATOR by GAIN (0 to 300) and LAG (1 to 50).");
        range("plant ", " 0 1 1;", 0, 3);
        range("plant 0 ", " 1 1;", 0, 3);
        range("plant 0 0 ", " 1;", 0, 300);
        range("plant 0 0 1 ", ";", 1, 50);
        CascadeBus x = sound("plant 0 3 1 1;plant 3 0 1 1;plant 2 3 1 1;");
        int[] hang = {x.plant(0, 1), x.plant(1, 1), x.plant(2, 1), x.plant(3, 1)};
        Check.dueAll("ACTUATORS", hang, 3, CascadeBus.NONE, 3, 0);
    }

    private static void oldAndOver() {
        Check.says("OLD (1 to 9; 3 without)");
        range("old ", ";", 1, 9);
        Check.due("without, a LINK is BAD behind", badBehind(""), 4);
        for (int old = 1; old <= 9; old++) {
            Check.due("OLD " + old + ", a LINK is BAD behind", badBehind("old " + old + ";"), old + 1);
        }
        Check.says("OVER (0 to 9; 2 without).");
        range("over ", ";", 0, 9);
        Check.due("without, WAIT", waitOf(""), 2);
        for (int over = 0; over <= 9; over++) {
            Check.due("WAIT", waitOf("over " + over + ";"), over);
        }
    }

    private static int badBehind(String old) {
        CascadeBus x = sound(old + "block 1 1 input 0;block 0 1 pick most;link 0 1 value;");
        x.cycles(1);
        x.power(1, false);
        for (int k = 1; k <= 12; k++) {
            x.cycles(1);
            if (x.link(0, 5) == 0) {
                return k;
            }
        }
        return CascadeBus.NONE;
    }

    private static int waitOf(String over) {
        CascadeBus x = sound(over);
        x.power(0, false);
        return x.count(5);
    }

    private static void longestText() {
        Check.says("A TEXT of at most 900 bytes tells it.");
        String blanks = " \n".repeat(447);
        CascadeBus x = sound(blanks + "over8;");
        Check.due("900 bytes", blanks.length() + 6, 900);
        x.power(0, false);
        Check.due("the last of them count", x.count(5), 8);
        fault(blanks + "over 8", 1, 900);
        fault(blanks + "over8x", 1, 899);
        fault(blanks + "over10", 2, 898);
        sound(" ".repeat(900));
        sound("\n".repeat(900));
        sound("old 0009;" + "\n".repeat(891));
        fault("9".repeat(900), 1, 0);
        fault("old" + "9".repeat(897), 2, 3);
        fault("a".repeat(900), 1, 0);
        fault(";".repeat(900), 1, 0);
    }

    private static String sign(int b) {
        return new String(new byte[] {(byte) b}, StandardCharsets.ISO_8859_1);
    }

    private static void everyByte() {
        Check.says("TOKENS: words (a .. z, the longest row), NUMBERS (1 to 4 digits), the sign ; and blanks (32, 10)"
                + " between them, which count for nothing.");
        for (int b = 0; b < 256; b++) {
            boolean blank = b == 32 || b == 10;
            boolean digit = b >= '0' && b <= '9';
            String at = sign(b);
            if (blank) {
                sound("old 1;" + at + "over 1;");
                sound("old" + at + "1;");
                sound("old 1" + at + ";");
                sound(at);
                continue;
            }
            fault("old 1;" + at + "over 1;", 1, 6);
            fault(at, 1, 0);
            if (digit && b != '0') {
                fault("old " + at + "1;", 2, 4);
                fault("old 1" + at + ";", 2, 4);
            } else if (digit) {
                sound("old " + at + "1;");
                fault("old 1" + at + ";", 2, 4);
            } else {
                fault("old " + at + "1;", 1, 4);
                fault("old 1" + at + ";", 1, b == ';' ? 6 : 5);
            }
        }
    }

    private static void words() {
        Check.says("words (a .. z, the longest row)");
        fault("ol 1;", 1, 0);
        fault("olds 1;", 1, 0);
        fault("oldold 1;", 1, 0);
        fault("ol d 1;", 1, 0);
        fault("old over 1;", 1, 4);
        fault("OLD 1;", 1, 0);
        fault("o\nld 1;", 1, 0);
        fault("oldover 1;", 1, 0);
        fault("block 0 1 pickmost;", 1, 10);
        fault("block 0 1 inputs 0;", 1, 10);
        fault("block 0 1 pid 1 1 manback;", 1, 18);
        fault(block(0) + block(3) + "link 0 1 valu;", 1, 47);
        fault(block(0) + block(3) + "link 0 1 values;", 1, 47);
        fault(block(0) + block(3) + "link 0 1 othe;", 1, 47);
        fault(block(1) + block(2) + "link 0 1 sett;", 1, 57);
        for (int c = 0; c < CLAUSES.length; c++) {
            for (int t = 0; t < CLAUSES[c].length; t++) {
                String word = CLAUSES[c][t];
                for (int k = 0; k < word.length() && Character.isLetter(word.charAt(0)); k++) {
                    String other = word.substring(0, k) + (char) (word.charAt(k) ^ 1) + word.substring(k + 1);
                    fault(upTo(c, t) + other, 1, upTo(c, t).length());
                    String twice = word.substring(0, k) + word.charAt(k) + word.substring(k);
                    fault(upTo(c, t) + twice, 1, upTo(c, t).length());
                }
            }
        }
    }

    private static void digits() {
        Check.says("NUMBERS (1 to 4 digits)");
        sound("old 1;");
        sound("old 01;");
        sound("old 001;");
        sound("old 0001;");
        fault("old 00001;", 2, 4);
        fault("old 0 1;", 2, 4);
        fault("old 1 1;", 1, 6);
        fault("old -1;", 1, 4);
        fault("old +1;", 1, 4);
        fault("old 1.;", 1, 5);
        fault("old 1a;", 1, 5);
        fault("old a1;", 1, 4);
        sound("block 0 1 output 0 1000;");
        sound("block 0000 0001 output 0003 0999;");
    }

    private static void blanks() {
        Check.says("blanks (32, 10) between them, which count for nothing");
        sound("devices3;block2 1input3;block0 9pid7 8man back;link0 1value;plant3 1 5 4;old4;over5;");
        sound("  devices\n\n3 ; block 2\n1 input \n 3\n;\n \n");
        sound("\n");
        sound("");
        fault("block01 input 0;", 1, 8);
        fault("block 01input 0;", 1, 8);
        fault("old\r1;", 1, 3);
        fault("old\t1;", 1, 3);
        fault("old\u00a01;", 1, 3);
    }

    private static void endsTooSoon() {
        Check.says("a TOKEN that can't stand there, or is none (the text's length where it ends too soon)");
        String ahead = "";
        for (String[] clause : CLAUSES) {
            StringBuilder part = new StringBuilder(ahead);
            for (int k = 0; k + 1 < clause.length; k++) {
                String token = clause[k];
                for (int cut = 1; cut < token.length(); cut++) {
                    fault(part + token.substring(0, cut), 1, part.length());
                }
                part.append(token);
                fault(part.toString(), 1, part.length());
                part.append(' ');
                fault(part.toString(), 1, part.length());
                fault(part + "\n ", 1, part.length() + 2);
            }
            part.append(";\n");
            ahead = part.toString();
            sound(ahead);
        }
    }

    /** The TEXT up to a TOKEN, blanks between all. */
    private static String upTo(int clause, int token) {
        List<String> all = new ArrayList<>();
        for (int c = 0; c < clause; c++) {
            all.addAll(List.of(CLAUSES[c]));
        }
        all.addAll(List.of(CLAUSES[clause]).subList(0, token));
        return all.isEmpty() ? "" : String.join(" ", all) + " ";
    }

    private static void cannotStand() {
        Check.says("1 a TOKEN that can't stand there");
        String[] words = {"devices", "block", "link", "plant", "old", "over", "input", "pid", "output", "pick", "man",
            "auto", "back", "stays", "most", "least", "value", "other", "set", "x"};
        for (int c = 0; c < CLAUSES.length; c++) {
            for (int t = 0; t < CLAUSES[c].length; t++) {
                String ahead = upTo(c, t);
                boolean number = Character.isDigit(CLAUSES[c][t].charAt(0));
                for (String word : words) {
                    if (!standsThere(c, t, word)) {
                        fault(ahead + word + ";", 1, ahead.length());
                    }
                }
                if (!CLAUSES[c][t].equals(";")) {
                    fault(ahead + ";", 1, ahead.length());
                }
                if (!number) {
                    fault(ahead + "1;", 1, ahead.length());
                    fault(ahead + "12345;", 1, ahead.length());
                }
                fault(ahead + "?", 1, ahead.length());
            }
        }
    }

    private static boolean standsThere(int clause, int token, String word) {
        if (token == 0) {
            return List.of("devices", "block", "link", "plant", "old", "over").contains(word);
        }
        String[][] groups = {{"input", "pid", "output", "pick"}, {"man", "auto"}, {"back", "stays"}, {"most", "least"},
            {"value", "other", "set"}};
        for (String[] group : groups) {
            if (List.of(group).contains(CLAUSES[clause][token])) {
                return List.of(group).contains(word);
            }
        }
        return false;
    }

    private static void firstAlongTheText() {
        Check.says("FAULTS, the first along the text, at a TOKEN's first byte");
        fault("old 0;x", 2, 4);
        fault("x old 0;", 1, 0);
        fault("block 2 0 input 4;", 3, 6);
        fault("block 0 10 input 4;", 2, 8);
        fault("block 0 1 input 4", 2, 16);
        fault("block 2 1 bad", 3, 6);
        fault("devices 2;devices 9;", 4, 10);
        fault("plant 0 4 301 51;", 2, 8);
        fault("plant 0 0 301 51;", 2, 10);
        fault("plant 0 0 1 1;plant 0 9 9 9;", 4, 20);
        fault("block 0 1 pid 301 101 x y;", 2, 14);
        fault("block 0 1 pid 1 101 x y;", 2, 16);
        fault("block 0 1 output 9 0;", 2, 17);
        fault(block(1) + "link 0 0 value x", 5, 36);
        fault(block(1) + "link 1 10 x", 3, 32);
        fault(block(1) + "link 0 1 x", 3, 34);
        fault("   old   0010  ;", 2, 9);
        fault("\n\nold\n\n0;", 2, 7);
    }

    private static void leastOfOneToken() {
        Check.says("of one TOKEN the least");
        fault("12345", 1, 0);
        fault("old 1 12345", 1, 6);
        fault("block 0 1 12345", 1, 10);
        fault("devices 1;block 5 1 input 0;", 2, 16);
        fault("devices 1;block 00001 1 input 0;", 2, 16);
        fault("link 10 0 value;", 2, 5);
        fault("link 00000 0 value;", 2, 5);
        fault(block(1) + "link 0 10 value;", 2, 34);
        fault("plant 0 0 1 1;plant 00000 0 1 1;", 2, 20);
        fault("plant 3 0 1 1;plant 4 0 1 1;", 2, 20);
        String pidTwice = block(1) + block(2) + block(0) + "link 0 1 set;";
        fault(pidTwice + "link 2 1 set;", 3, pidTwice.length() + 9);
        fault(pidTwice + "link 0 1 put;", 1, pidTwice.length() + 9);
        fault(block(1) + "link 0 0 other;", 3, block(1).length() + 9);
        fault(block(2) + "link 0 0 set;", 3, block(2).length() + 9);
        fault(block(3) + "link 0 0 set;", 3, block(3).length() + 9);
    }

    private static void tooMuch() {
        Check.says("2 one that can, but is too much: a NUMBER of 5 digits or more, or not as told"
                + " (DEVICE 0 to 4, BLOCK 0 to 9, SENSOR, ACTUATOR 0 to 3)");
        fault("block 4 1 input 0;", 3, 6);
        fault("block 5 1 input 0;", 2, 6);
        fault("link 9 0 value;", 3, 5);
        fault("link 10 0 value;", 2, 5);
        fault(block(1) + "link 0 9 value;", 3, 34);
        fault(block(1) + "link 0 10 value;", 2, 34);
        String ten = block(3).repeat(10);
        sound(ten + "link 9 0 value;");
        sound(ten + "link 0 9 other;");
        sound(ten + "link 0009 0000 other;");
        fault(ten + "link 10 0 value;", 2, ten.length() + 5);
        fault(ten + "link 9 10 value;", 2, ten.length() + 7);
        fault(ten + "link 00009 0 value;", 2, ten.length() + 5);
        fault(ten + "link 9 00000 value;", 2, ten.length() + 7);
        Check.says("the first word of the 11th 'block', the 13th 'link'");
        fault(ten + "block 0 1 pick most;", 2, ten.length());
        StringBuilder twelve = new StringBuilder(ten);
        for (int k = 1; k <= 6; k++) {
            twelve.append("link 0 ").append(k).append(" value;link 9 ").append(k).append(" other;");
        }
        sound(twelve.toString());
        fault(twelve + "link 0 7 value;", 2, twelve.length());
        fault(twelve + "block 0 1 pick most;", 2, twelve.length());
    }

    private static void notThere() {
        Check.says("3 a DEVICE, a BLOCK that there isn't");
        for (int many = 1; many <= 4; many++) {
            String told = "devices " + many + ";";
            sound(told + "block " + (many - 1) + " 1 pick most;");
            for (int d = many; d <= 4; d++) {
                fault(told + "block " + d + " 1 pick most;", 3, 16);
            }
        }
        for (int many = 1; many <= 9; many++) {
            String told = block(3).repeat(many);
            fault(told + "link " + many + " 0 value;", 3, told.length() + 5);
            fault(told + "link 0 " + many + " value;", 3, told.length() + 7);
            fault(told + "link 9 9 value;", 3, told.length() + 5);
            if (many > 1) {
                sound(told + "link " + (many - 1) + " 0 value;");
                sound(told + "link 0 " + (many - 1) + " value;");
            }
        }
        fault("link 0 1 value;" + block(0) + block(3), 3, 5);
        fault(block(0) + "link 0 1 value;" + block(3), 3, 25);
    }

    private static void notSuchABlocks() {
        Check.says("the word behind a LINK's BLOCKS that isn't such a BLOCK's (to, or of SET from)");
        for (int to : new int[] {0, 2}) {
            String two = block(1) + block(to) + "link 0 1 ";
            fault(two + "value;", 3, two.length());
            fault(two + "other;", 3, two.length());
        }
        for (int from : new int[] {0, 2, 3}) {
            for (int to = 0; to < 4; to++) {
                String two = block(from) + block(to) + "link 0 1 ";
                fault(two + "set;", 3, two.length());
            }
        }
        String pids = block(1) + block(1) + "link 0 1 ";
        fault(pids + "other;", 3, pids.length());
    }

    private static void toldAlready() {
        Check.says("4 'devices' behind any other CLAUSE (a second one, too)");
        String[] ahead = {"devices 1;", block(0), block(1) + block(2) + "link 0 1 set;", "plant 0 0 1 1;", "old 1;",
            "over 1;"};
        for (String told : ahead) {
            fault(told + "devices 2;", 4, told.length());
            fault(told + "devices", 4, told.length());
            fault(told + "devices 9;", 4, told.length());
        }
        sound(" \n devices 2;");
        Check.says("'old', 'over' told already (at it)");
        fault("old 1;old 1;", 4, 6);
        fault("old 1;old", 4, 6);
        fault("old 1;old 0;", 4, 6);
        fault("over 1;over 1;", 4, 7);
        fault("over 0;over", 4, 7);
        fault("over 1;over 10;", 4, 7);
        fault("old 3;over 2;old 3;", 4, 13);
        fault("over 2;old 3;over 2;", 4, 13);
        sound("over 2;old 3;");
        sound("old 3;over 2;");
        Check.says("a SENSOR that has a PLANT");
        for (int sensor = 0; sensor < 4; sensor++) {
            fault("plant " + sensor + " 0 1 1;plant " + sensor + " 1 2 2;", 4, 20);
            fault("plant " + sensor + " 0 1 1;plant 000" + sensor, 4, 20);
        }
        sound("plant 0 2 1 1;plant 1 2 1 1;plant 2 2 1 1;plant 3 2 1 1;");
        CascadeBus x = new CascadeBus();
        Check.tell(x, "plant 0 2 1 1;old 1;over 1;devices 1;");
        Check.due("a TEXT of its own can tell it again", Check.tell(x, "devices 1;plant 0 1 1 1;old 1;over 1;"), 0);
        Check.due("ACTUATOR", x.plant(0, 1), 1);
        Check.due("nothing is left of another TEXT", Check.tell(x, "") == 0 ? x.plant(0, 1) : -9, CascadeBus.NONE);
    }

    private static void linkedAlready() {
        Check.says("5 at the word behind a LINK's BLOCKS: what has a LINK already there");
        int[][] places = {{1, 0}, {3, 0}, {3, 1}, {1, 2}, {2, 2}};
        for (int[] place : places) {
            String where = WHERES[place[1]];
            String told = block(1) + block(1) + block(place[0]) + "link 0 2 " + where + ";";
            fault(told + "link 0 2 " + where + ";", 5, told.length() + 9);
            fault(told + "link 1 2 " + where + ";", 5, told.length() + 9);
            sound(told);
        }
        sound(block(0) + block(3) + "link 0 1 value;link 0 1 other;");
        sound(block(0) + block(3) + "link 0 1 other;link 0 1 value;");
        sound(block(0) + block(1) + block(1) + "link 0 1 value;link 0 2 value;link 1 2 set;");
        Check.says("a PID from which a SET goes already");
        String sets = block(1) + block(2) + block(2) + block(1) + "link 0 1 set;";
        fault(sets + "link 0 2 set;", 5, sets.length() + 9);
        fault(sets + "link 0 3 set;", 5, sets.length() + 9);
        sound(sets + "link 3 2 set;");
        sound(sets + "link 0 3 value;");
        sound(block(1) + block(3) + block(3) + block(2) + "link 0 1 value;link 0 2 value;link 0 3 set;");
    }

    private static void aheadOfItself() {
        Check.says("a LINK by which a BLOCK would come ahead of itself.");
        fault(block(1) + "link 0 0 value;", 5, 36);
        fault(block(1) + "link 0 0 set;", 5, 36);
        fault(block(3) + "link 0 0 value;", 5, 29);
        fault(block(3) + "link 0 0 other;", 5, 29);
        for (int many = 2; many <= 10; many++) {
            String told = block(3).repeat(many);
            StringBuilder up = new StringBuilder(told);
            StringBuilder down = new StringBuilder(told);
            for (int k = 1; k < many; k++) {
                up.append("link ").append(k - 1).append(' ').append(k).append(" value;");
                down.insert(told.length(), "link " + k + " " + (k - 1) + " value;");
            }
            sound(up.toString());
            sound(down.toString());
            fault(up + "link " + (many - 1) + " 0 value;", 5, up.length() + 9);
            fault(down + "link 0 " + (many - 1) + " value;", 5, down.length() + 9);
            fault(up + "link " + (many - 1) + " 0 other;", 5, up.length() + 9);
            sound(up + "link 0 " + (many - 1) + " other;");
        }
        String pids = block(1) + block(1) + "link 0 1 set;";
        fault(pids + "link 1 0 value;", 5, pids.length() + 9);
        fault(pids + "link 1 0 set;", 5, pids.length() + 9);
        String diamond = block(3).repeat(4) + "link 0 1 value;link 0 2 value;link 1 3 value;link 2 3 other;";
        sound(diamond);
        fault(diamond + "link 3 0 value;", 5, diamond.length() + 9);
    }
}
