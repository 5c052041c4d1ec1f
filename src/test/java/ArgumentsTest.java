import java.lang.reflect.InvocationTargetException;
import java.lang.reflect.Method;
import java.lang.reflect.Modifier;
import java.util.Arrays;

/**
 * Each call of the face with each set of edge numbers, on an army in the midst of things: it answers as the model does,
 * and never throws. The object is made anew before it has had the calls that the document allows.
 */
public final class ArgumentsTest {
    private static final Due due = new Due();
    private static final int MIN = Integer.MIN_VALUE, MAX = Integer.MAX_VALUE;
    private static final int[] WIDE = {MIN, MIN + 1, -10000, -9999, -12, -2, -1, 0, 1, 2, 3, 4, 5, 6, 7, 8, 9, 10, 11, 12, 19, 20, 21, 22,
        59, 60, 61, 62, 254, 255, 256, 9998, 9999, 10000, MAX - 1, MAX};
    private static final int[] MIDDLE = {MIN, -10000, -9999, -1, 0, 1, 2, 3, 4, 5, 10, 9999, 10000, MAX};
    private static final int[] NARROW = {MIN, -1, 0, 1, 2, 3, 5, MAX};
    private static final int CALLS_OF_ONE = 200;

    private final String text;
    private OppositeThreads x;
    private Model model;
    private int made;

    private ArgumentsTest(String text) {
        this.text = text;
    }

    public static void main(String[] args) throws Exception {
        String[] texts = {"army 1", "army 2;buttons 3 0", "army 3;sniper 1;drummer 4;buttons 0 6;buttons 5 0",
            "army 4;corporal 0;sailor 7;mender 0 7;buttons 4 1;mender 6 0"};
        for (String text : texts) {
            ArgumentsTest test = new ArgumentsTest(text);
            for (Method m : OppositeThreads.class.getDeclaredMethods()) {
                if (Modifier.isPublic(m.getModifiers())) {
                    test.everyCall(m);
                }
            }
        }
        due.end();
    }

    private void everyCall(Method m) throws Exception {
        int number = m.getParameterCount();
        int[] edges = number <= 2 ? WIDE : number <= 4 ? MIDDLE : NARROW;
        begin();
        int all = (int) Math.round(Math.pow(edges.length, number));
        for (int c = 0; c < all; c++) {
            Integer[] arguments = new Integer[number];
            for (int i = 0, rest = c; i < number; i++, rest /= edges.length) {
                arguments[i] = edges[rest % edges.length];
            }
            call(m.getName(), arguments);
            if (made >= CALLS_OF_ONE) {
                begin();
            }
        }
    }

    private void begin() throws Exception {
        x = new OppositeThreads();
        model = new Model();
        for (int i = 0; i < text.length(); i++) {
            call("write", (int) text.charAt(i));
        }
        call("army");
        call("day", 1);
        call("keep", 0);
        call("mend", 0, model.now.men.size() - 1);
        call("seen", 0, 3, 1);
        call("sheet", 0, 0, 3);
        call("sheet", 1, 1, 5);
        call("set", 0, 0, 2, 7);
        call("set", 1, 1, 0, -9999);
        call("write", (int) 'a');
        made = 0;
    }

    private void call(String name, Integer... arguments) throws Exception {
        made++;
        Class<?>[] types = new Class<?>[arguments.length];
        Arrays.fill(types, int.class);
        int want = (Integer) Model.class.getDeclaredMethod(name, types).invoke(model, (Object[]) arguments);
        try {
            int got = (Integer) OppositeThreads.class.getMethod(name, types).invoke(x, (Object[]) arguments);
            due.is(name + Arrays.toString(arguments) + " of '" + text + "'", got, want);
        } catch (InvocationTargetException e) {
            due.holds(name + Arrays.toString(arguments) + " does not throw " + e.getCause(), false);
        }
    }
}
