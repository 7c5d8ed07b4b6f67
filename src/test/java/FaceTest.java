import java.lang.reflect.Constructor;
import java.lang.reflect.Field;
import java.lang.reflect.Method;
import java.lang.reflect.Modifier;
import java.util.Map;
import java.util.TreeMap;
import java.util.TreeSet;

/** The public face, the constants, and that no arguments in any state make the class throw. */
public final class FaceTest {
    private static final Check check = new Check();
    private static final Map<String, Integer> FACE = new TreeMap<>();

    static {
        String face = "put3 lock2 begin0 move2 squareOf2 lockOf2 sideOf2 moves0 movesAgain0 moveAt1 repeats0"
            + " mostRepeats0 wouldPush2 firstTake0 ways1 turnsIn1 tideIn1 describe1 sign1 append1 read0"
            + " refusal1 account1 mean0 undo0 save0 restore0";
        for (String method : face.split(" ")) {
            int last = method.length() - 1;
            FACE.put(method.substring(0, last), method.charAt(last) - '0');
        }
    }

    public static void main(String[] args) throws Exception {
        members();
        constants();
        privateNames();
        anyArguments();
        check.end("FaceTest");
    }

    private static boolean seen(int modifiers) {
        return !Modifier.isPrivate(modifiers);
    }

    private static void members() {
        check.due("the class is public and final", BargeChess.class.getModifiers(), Modifier.PUBLIC | Modifier.FINAL);
        Map<String, Integer> methods = new TreeMap<>();
        for (Method method : BargeChess.class.getDeclaredMethods()) {
            if (seen(method.getModifiers())) {
                methods.put(method.getName(), method.getParameterCount());
                check.due("the modifiers of " + method.getName(), method.getModifiers(), Modifier.PUBLIC);
                check.due("the answer of " + method.getName(), method.getReturnType().getName(), "int");
            }
        }
        check.due("the methods", methods.toString(), FACE.toString());
        check.due("the constructors", BargeChess.class.getDeclaredConstructors().length, 1);
        for (Constructor<?> constructor : BargeChess.class.getDeclaredConstructors()) {
            check.due("the constructor", constructor.toString(), "public BargeChess()");
        }
        TreeSet<String> fields = new TreeSet<>();
        for (Field field : BargeChess.class.getDeclaredFields()) {
            if (seen(field.getModifiers())) {
                fields.add(field.getName());
            }
        }
        check.due("the fields", fields.toString(), "[BAD, NONE, NOTHING, REFUSED]");
    }

    private static void constants() {
        check.due("NONE", BargeChess.NONE, -1);
        check.due("BAD", BargeChess.BAD, -2);
        check.due("REFUSED", BargeChess.REFUSED, -3);
        check.due("NOTHING", BargeChess.NOTHING, -4);
    }

    private static void privateNames() {
        for (Method method : BargeChess.class.getDeclaredMethods()) {
            check.due("a private " + method.getName(),
                !seen(method.getModifiers()) && FACE.containsKey(method.getName()) ? 1 : 0, 0);
        }
        for (Class<?> inside : BargeChess.class.getDeclaredClasses()) {
            for (Method method : inside.getDeclaredMethods()) {
                check.due(inside.getName() + "." + method.getName(), FACE.containsKey(method.getName()) ? 1 : 0, 0);
            }
        }
    }

    private static void anyArguments() throws Exception {
        int[] numbers = {Integer.MIN_VALUE, Integer.MIN_VALUE + 1, -37, -8, -4, -3, -2, -1, 0, 1, 2, 3, 4, 5, 6,
            7, 8, 12, 16, 17, 20, 30, 35, 36, 71, 100, 117, 126, 127, 144, 1 << 30, Integer.MAX_VALUE};
        java.util.Random random = new java.util.Random(1);
        for (int run = 0; run < 40; run++) {
            BargeChess x = run % 2 == 0 ? new BargeChess() : Check.begun("btb... .t2... ...3.. ..5... .T..B. B.TB..");
            for (int call = 0; call < 3000; call++) {
                for (Method method : BargeChess.class.getDeclaredMethods()) {
                    if (seen(method.getModifiers())) {
                        Object[] arguments = new Object[method.getParameterCount()];
                        for (int i = 0; i < arguments.length; i++) {
                            arguments[i] = numbers[random.nextInt(numbers.length)];
                        }
                        if (!method.getName().equals("restore") || call % 50 == 0) {
                            method.invoke(x, arguments);
                        }
                    }
                }
            }
        }
    }
}
