import java.lang.reflect.Method;
import java.util.ArrayList;
import java.util.Arrays;
import java.util.Comparator;
import java.util.List;
import java.util.Random;

/** All promises: long runs of calls (always the same ones), each answer looked at against the model's. */
public final class ModelTest {
    private static final Due due = new Due();
    private static final int RUNS = 1200, CALLS = 256, MOST_CALLS = 512;
    private static final int[] EDGES = {Integer.MIN_VALUE, Integer.MAX_VALUE, -10000, -9999, 9999, 10000, -2, 11, 20, 21, 60, 61, 255, 256};

    private final Random random;
    private final OppositeThreads x = new OppositeThreads();
    private final Model model = new Model();
    private final StringBuilder calls = new StringBuilder();
    private final int textBent;
    private int made = 0;
    private boolean right = true;

    private ModelTest(long seed) {
        random = new Random(seed);
        textBent = random.nextInt(4);
    }

    public static void main(String[] args) throws Exception {
        List<Method> face = new ArrayList<>(Arrays.asList(OppositeThreads.class.getDeclaredMethods()));
        face.removeIf(m -> !java.lang.reflect.Modifier.isPublic(m.getModifiers()));
        face.sort(Comparator.comparing(Method::getName));
        for (int run = 0; run < RUNS; run++) {
            ModelTest test = new ModelTest(run);
            test.go(face);
            due.holds("run " + run + " is as the model's:\n" + test.calls, test.right);
            if (!test.right) {
                break;
            }
        }
        due.end();
    }

    private void go(List<Method> face) throws Exception {
        for (int c = 0; c < CALLS && made < MOST_CALLS && right; c++) {
            if (random.nextInt(40) == 0 || (c == 0 && random.nextInt(8) != 0)) {
                tell();
            } else {
                Method m = face.get(random.nextInt(face.size()));
                boolean rare = m.getName().equals("army") || m.getName().equals("forget") || m.getName().equals("back");
                if (!rare || random.nextInt(4) == 0) {
                    call(m, arguments(m.getName(), m.getParameterCount()));
                }
            }
        }
    }

    private void tell() throws Exception {
        call(OppositeThreads.class.getMethod("erase"));
        String text = text();
        Method write = OppositeThreads.class.getMethod("write", int.class);
        for (int i = 0; i < text.length() && right; i++) {
            call(write, (int) text.charAt(i));
        }
        call(OppositeThreads.class.getMethod("fault"));
        call(OppositeThreads.class.getMethod("army"));
    }

    private String text() {
        StringBuilder text = new StringBuilder();
        int men = model.now.n();
        int clauses = 1 + random.nextInt(random.nextInt(6) == 0 ? 27 : 9);
        String[] words = {"plain", "sailor", "sniper", "corporal", "drummer", "buttons", "mender"};
        for (int c = 0; c < clauses && text.length() < 190; c++) {
            if (c > 0) {
                text.append(random.nextInt(4) == 0 ? " ; " : ";");
            }
            if (c == 0 || random.nextInt(9) == 0) {
                men = 1 + random.nextInt(4);
                text.append("army ").append(men);
                continue;
            }
            int word = random.nextInt(words.length);
            int man = random.nextInt(2 * men);
            text.append(words[word]).append(' ').append(man);
            if (word == 5) {
                text.append(' ').append(random.nextInt(7));
            } else if (word == 6) {
                text.append(' ').append((man < men ? men : 0) + random.nextInt(men));
            }
        }
        if (textBent == 0 && random.nextInt(2) == 0) {
            bend(text);
        }
        return text.toString();
    }

    private void bend(StringBuilder text) {
        int at = random.nextInt(text.length());
        String signs = "0123456789 ;;  azA.\t" + (char) 0 + (char) 255;
        char sign = signs.charAt(random.nextInt(signs.length()));
        switch (random.nextInt(4)) {
            case 0:
                text.setCharAt(at, sign);
                break;
            case 1:
                text.insert(at, sign);
                break;
            case 2:
                text.deleteCharAt(at);
                break;
            default:
                text.setLength(at);
        }
    }

    private Integer[] arguments(String name, int number) {
        Integer[] arguments = new Integer[number];
        for (int i = 0; i < number; i++) {
            arguments[i] = random.nextInt(25) == 0 ? EDGES[random.nextInt(EDGES.length)] : usual(name, i);
        }
        return arguments;
    }

    private int usual(String name, int place) {
        switch (name + place) {
            case "write0":
                return random.nextInt(256);
            case "behind1":
            case "left1":
                return random.nextInt(62);
            case "coat0":
            case "pairs1":
                return random.nextInt(22);
            case "keeps1":
            case "day0":
                return random.nextInt(12) - random.nextInt(2);
            case "set3":
                return random.nextInt(20001) - 10000;
            case "copy1":
            case "copy3":
            case "set2":
            case "get2":
                return random.nextInt(6) - random.nextInt(2);
            case "sheet2":
                return random.nextInt(13) - 1;
            case "set1":
            case "get1":
            case "sheet1":
                return random.nextInt(2);
            case "pairs0":
            case "left0":
            case "seen0":
            case "keeps2":
                return random.nextInt(2);
            case "pairs2":
                return random.nextInt(model.now.n() + 1) - 1;
            case "seen1":
            case "seen2":
                return random.nextInt(4);
            case "copy0":
            case "copy2":
            case "join0":
            case "join1":
            case "drop0":
            case "sum0":
            case "set0":
            case "get0":
            case "sheet0":
                return random.nextInt(3);
            case "count0":
                return random.nextInt(11);
            case "keep0":
            case "back0":
                return random.nextInt(3);
            case "man1":
            case "as1":
                return random.nextInt(7);
            default:
                return random.nextInt(2 * model.now.n() + (random.nextInt(10) == 0 ? 1 : 0));
        }
    }

    private void call(Method m, Integer... arguments) throws Exception {
        if (made >= MOST_CALLS) {
            return;
        }
        made++;
        Method twin = Model.class.getDeclaredMethod(m.getName(), m.getParameterTypes());
        int want = (Integer) twin.invoke(model, (Object[]) arguments);
        int got;
        try {
            got = (Integer) m.invoke(x, (Object[]) arguments);
        } catch (java.lang.reflect.InvocationTargetException e) {
            right = false;
            calls.append(m.getName()).append(Arrays.toString(arguments)).append(" threw ").append(e.getCause());
            return;
        }
        right = got == want;
        calls.append(m.getName()).append(Arrays.toString(arguments)).append(" = ").append(got);
        calls.append(right ? "\n" : ", due is " + want);
    }
}
