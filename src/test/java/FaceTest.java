import java.lang.reflect.Field;
import java.lang.reflect.Method;
import java.lang.reflect.Modifier;
import java.util.Map;
import java.util.Set;
import java.util.TreeMap;
import java.util.TreeSet;

/** The class as the document shows it, and wrong numbers in every call. */
public final class FaceTest {
    private static final int[] ODD = {Integer.MIN_VALUE, -100, -2, -1, 0, 1, 2, 3, 4, 5, 9, 10, 12, 14, 15, 16, 20, 21,
        30, 31, 60, 61, 300, 301, 900, 901, 1000, 1001, 2000, Integer.MAX_VALUE};

    private static final String[] FACE = {"int feed(int,int,int,int,int)", "int bus(int) IllegalArgumentException",
        "int fault()", "int count(int) NoSuchElementException", "int block(int,int) NoSuchElementException",
        "int link(int,int) NoSuchElementException", "int plant(int,int) NoSuchElementException", "int target(int,int)",
        "int hand(int,int)", "int power(int,boolean)", "int broken(int,boolean)", "int cycles(int)", "int undo()",
        "int then(int,int,int) NoSuchElementException IllegalArgumentException",
        "int first(int) NoSuchElementException", "int jump(int,int) NoSuchElementException IllegalArgumentException",
        "int lost(int,int) NoSuchElementException IllegalArgumentException", "int toRide()",
        "int toTune(int,int,int) NoSuchElementException IllegalArgumentException",
        "int slack(int) NoSuchElementException", "int note(int,int,int)", "int fits()",
        "int look(int) NoSuchElementException", "void forget()",
        "int years(int,int,int) NoSuchElementException IllegalArgumentException", "void image()", "boolean restore()"};

    private static final String FULL = "devices 5;old 2;over 1;block 0 1 input 0;block 1 2 pid 80 20 man back;"
            + "block 2 1 input 1;block 3 2 pid 60 10 auto stays;block 4 1 output 0 40;block 0 1 pick most;"
            + "block 1 1 pick least;block 2 1 input 2;block 3 1 output 1 7;block 4 3 pid 5 5 man stays;"
            + "link 0 1 value;link 1 3 set;link 2 3 value;link 3 4 set;link 0 5 value;link 7 5 other;link 2 6 value;"
            + "link 5 6 other;link 6 9 value;link 9 8 set;plant 0 0 90 3;plant 1 0 100 2;plant 2 1 50 1;";

    private FaceTest() {
    }

    public static void main(String[] args) throws ReflectiveOperationException {
        faceIsAsTold();
        wrongNumbersThrowAsTold(new CascadeBus());
        wrongNumbersThrowAsTold(Check.told(FULL));
        Check.end("FaceTest");
    }

    private static void faceIsAsTold() throws ReflectiveOperationException {
        Set<String> seen = new TreeSet<>();
        Map<String, Integer> names = new TreeMap<>();
        for (Method m : CascadeBus.class.getDeclaredMethods()) {
            names.merge(m.getName(), 1, Integer::sum);
            if (!Modifier.isPrivate(m.getModifiers()) && !m.isSynthetic()) {
                seen.add(told(m));
            }
        }
        Check.due("methods that are not private", seen.size(), FACE.length);
        for (String method : FACE) {
            Check.due("there is " + method, seen.contains(method), true);
            String name = method.substring(method.indexOf(' ') + 1, method.indexOf('('));
            Check.due("only one is named " + name, names.getOrDefault(name, 0), 1);
            for (Class<?> inside : CascadeBus.class.getDeclaredClasses()) {
                for (Method m : inside.getDeclaredMethods()) {
                    Check.due(inside.getName() + "." + name + " is not", m.getName().equals(name), false);
                }
            }
        }
        for (Field f : CascadeBus.class.getDeclaredFields()) {
            boolean open = !Modifier.isPrivate(f.getModifiers()) && !f.isSynthetic();
            Check.due("field " + f.getName(), open, f.getName().equals("NONE"));
        }
        Check.due("NONE", CascadeBus.class.getField("NONE").getInt(null), -1);
        Check.due("final", Modifier.isFinal(CascadeBus.class.getModifiers()), true);
        Check.due("constructors", CascadeBus.class.getConstructors().length, 1);
        Check.due("classes inside, with the outer one", CascadeBus.class.getDeclaredClasses().length + 1 <= 12, true);
    }

    private static String told(Method m) {
        StringBuilder text = new StringBuilder(m.getReturnType().getName()).append(' ').append(m.getName()).append('(');
        for (Class<?> p : m.getParameterTypes()) {
            text.append(text.charAt(text.length() - 1) == '(' ? "" : ",").append(p.getName());
        }
        text.append(')');
        for (Class<?> e : m.getExceptionTypes()) {
            text.append(' ').append(e.getSimpleName());
        }
        return text.toString();
    }

    /** Every call with odd numbers: what it throws is thrown by its own throw, and by no other method than told. */
    private static void wrongNumbersThrowAsTold(CascadeBus x) throws ReflectiveOperationException {
        for (String told : FACE) {
            for (Method m : CascadeBus.class.getDeclaredMethods()) {
                if (Modifier.isPublic(m.getModifiers()) && told(m).equals(told) && m.getParameterCount() > 0) {
                    tryOdd(x, m, told, new Object[m.getParameterCount()], 0);
                }
            }
        }
    }

    private static void tryOdd(CascadeBus x, Method m, String told, Object[] with, int at)
            throws ReflectiveOperationException {
        if (at < with.length) {
            if (m.getParameterTypes()[at] == boolean.class) {
                with[at] = true;
                tryOdd(x, m, told, with, at + 1);
                with[at] = false;
                tryOdd(x, m, told, with, at + 1);
                return;
            }
            // feed has five: the edges of one number are enough there
            int step = with.length > 3 ? 15 : 1;
            for (int k = 0; k < ODD.length; k += step) {
                with[at] = ODD[k];
                tryOdd(x, m, told, with, at + 1);
            }
            return;
        }
        try {
            m.invoke(x, with);
            Check.due(told, 0, 0);
        } catch (java.lang.reflect.InvocationTargetException e) {
            Throwable thrown = e.getCause();
            String name = thrown.getClass().getSimpleName();
            Check.due(m.getName() + " throws " + name, told.contains(" " + name), true);
            Check.due("by itself", thrown.getStackTrace()[0].getClassName().startsWith("CascadeBus"), true);
        }
    }
}
