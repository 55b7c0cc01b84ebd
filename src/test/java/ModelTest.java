import java.lang.reflect.Method;
import java.util.ArrayList;
import java.util.Arrays;
import java.util.Comparator;
import java.util.List;
import java.util.Map;
import java.util.Random;

/** Runs of calls drawn by fixed seeds, on the class and on the model: each answer is the same. */
final class ModelTest {
    private static final int RUNS = 1200, CALLS = 512, SOUPS = 6000;
    private static final int[] ODD = {-1, -2, -3, 5, 6, 9, 10, 23, 24, 25, 40, 41, 60, 61, 99, 100, 160, 240, 241, 255, 256,
        999, 1000, Integer.MAX_VALUE, Integer.MAX_VALUE - 1, Integer.MIN_VALUE, Integer.MIN_VALUE + 1, 65536, -65535, 257};

    /** How great each argument of a call commonly is, one more than the greatest. */
    private static final Map<String, int[]> USUAL = Map.ofEntries(
        Map.entry("set", new int[] {6, 5, 10}), Map.entry("rider", new int[] {6, 10, 10}),
        Map.entry("told", new int[] {5, 11}), Map.entry("feed", new int[] {128}), Map.entry("text", new int[] {}),
        Map.entry("force", new int[] {6}), Map.entry("step", new int[] {5}), Map.entry("day", new int[] {4}),
        Map.entry("run", new int[] {5, 61, 5}), Map.entry("takes", new int[] {5}), Map.entry("fewest", new int[] {5}),
        Map.entry("ease", new int[] {5, 2}), Map.entry("change", new int[] {5, 2}), Map.entry("bears", new int[] {5, 24}),
        Map.entry("all", new int[] {5}), Map.entry("spread", new int[] {2}), Map.entry("tells", new int[] {4, 5, 34}),
        Map.entry("film", new int[] {4, 5, 31}), Map.entry("drawn", new int[] {1 << 30, 5}),
        Map.entry("chance", new int[] {1 << 30, 21, 5, 36, 2}), Map.entry("image", new int[] {}),
        Map.entry("back", new int[] {}), Map.entry("count", new int[] {6}), Map.entry("sheet", new int[] {4, 3, 41}),
        Map.entry("cell", new int[] {4, 20, 100}), Map.entry("copy", new int[] {4, 12, 4, 12, 8}),
        Map.entry("riders", new int[] {4, 3, 12, 6}), Map.entry("taken", new int[] {5, 6}));

    private static final String[] PIECES = {"lets", "holds", "pumps", "or", "and", "not", "thought", "air", "number", "at",
        "patches", "day", "(", ")", ";", "+", "-", "*", "<", "=", "0", "7", "42", "9999", "12345", "00012", "A", ">", "\t",
        "\n", "lett", "thoughts", "a", "\u00e9", "- ", "not not not not not ", "((((", "-----"};

    private static final String[] OPERANDS = {"1", "7", "air", "at", "not 1", "- 2", "( 3 )", "not not air", "- - 4", "(",
        "( (", "not (", "- (", "- - ("};
    private static final String[] JOINTS = {"+", "-", "*", "<", "=", "or", "and", ")", ") )", ") +", ") <", "<", ";"};

    private final Random random;
    private final PuncturesAreViews real = new PuncturesAreViews();
    private final Model model = new Model();
    private final StringBuilder log = new StringBuilder();
    private final List<Method> methods;

    private ModelTest(long seed, List<Method> methods) {
        random = new Random(seed);
        this.methods = methods;
    }

    public static void main(String[] args) throws Exception {
        readsSoups();
        List<Method> methods = new ArrayList<>(Arrays.asList(PuncturesAreViews.class.getDeclaredMethods()));
        methods.removeIf(m -> !java.lang.reflect.Modifier.isPublic(m.getModifiers()));
        methods.sort(Comparator.comparing(Method::getName));
        for (long seed = 1; seed <= RUNS; seed++) {
            new ModelTest(seed, methods).go(seed);
        }
        Check.end();
    }

    private void go(long seed) throws Exception {
        int left = CALLS;
        boolean thinks = random.nextInt(4) != 0;
        for (int p = 0; p < 24 && thinks; p++) {
            left -= call("set", 1, p, random.nextInt(random.nextBoolean() ? 10 : 4));
        }
        while (left > 0) {
            int dice = random.nextInt(60);
            if (dice == 0 && left > 170) {
                left -= text();
            } else if (dice < 3) {
                left -= call("rider", random.nextInt(6), random.nextInt(10), random.nextInt(10));
            } else if (dice < 8) {
                left -= call("set", random.nextInt(6), random.nextInt(5), random.nextInt(24));
            } else if (dice < 10 && left > 20) {
                left -= filmAndTell();
            } else if (dice == 10) {
                left -= admitBySheet();
            } else {
                Method m = methods.get(random.nextInt(methods.size()));
                if (!m.getName().equals("feed") || random.nextInt(8) == 0) {
                    left -= call(m.getName(), arguments(m));
                }
            }
        }
    }

    /** Rows of pieces that are hardly ever texts, each on an object of its own. */
    private static void readsSoups() throws Exception {
        Random random = new Random(77);
        for (int i = 0; i < SOUPS; i++) {
            ModelTest t = new ModelTest(i, List.of());
            StringBuilder soup = new StringBuilder("lets ");
            boolean operand = true;
            for (int k = random.nextInt(14); k >= 0; k--) {
                boolean fits = random.nextInt(12) != 0;
                soup.append(!fits ? PIECES[random.nextInt(PIECES.length)]
                    : operand ? OPERANDS[random.nextInt(OPERANDS.length)] : JOINTS[random.nextInt(JOINTS.length)]);
                soup.append(random.nextInt(3) == 0 ? "" : " ");
                operand = !operand;
            }
            soup.append(random.nextBoolean() ? ";holds(air)*2;pumps day;" : ";holds 1 ;pumps 2; ");
            t.call("rider", 0, 3, 2);
            for (int k = 0; k < soup.length() && k < 160; k++) {
                t.call("feed", soup.charAt(k));
            }
            t.call("text");
            t.call("force", 1);
            t.call("told", 0, 8);
            t.call("told", 0, 9);
        }
    }

    private int filmAndTell() throws Exception {
        int sheet = random.nextInt(4);
        int one = random.nextInt(5);
        int n = random.nextInt(31);
        int calls = call("film", sheet, one, n);
        if (random.nextBoolean()) {
            calls += call("set", 2 + random.nextInt(4), one, random.nextInt(10));
        }
        if (random.nextInt(4) == 0 && n > 0) {
            calls += call("cell", sheet, random.nextInt(n), random.nextInt(50));
        }
        for (int what = 0; what < 7; what++) {
            calls += call("tells", sheet, one, what);
        }
        for (int i = 0; i < 4; i++) {
            calls += call("tells", sheet, one, 10 + random.nextInt(24));
        }
        return calls;
    }

    private int admitBySheet() throws Exception {
        int sheet = random.nextInt(4);
        int sort = random.nextInt(3);
        int calls = call("sheet", sheet, sort, 3 + random.nextInt(4));
        for (int i = 0; i < 6; i++) {
            calls += call("cell", sheet, i, random.nextInt(i % 3 == 0 ? 7 : 11));
        }
        return calls + call("riders", sheet, sort, random.nextInt(3), random.nextInt(3));
    }

    private int[] arguments(Method m) {
        int[] usual = USUAL.get(m.getName());
        int[] a = new int[usual.length];
        for (int i = 0; i < a.length; i++) {
            a[i] = random.nextInt(20) == 0 ? ODD[random.nextInt(ODD.length)] : random.nextInt(usual[i]);
        }
        return a;
    }

    private int call(String name, int... a) throws Exception {
        Class<?>[] types = new Class<?>[a.length];
        Object[] boxed = new Object[a.length];
        Arrays.fill(types, int.class);
        for (int i = 0; i < a.length; i++) {
            boxed[i] = a[i];
        }
        log.append(name).append(Arrays.toString(a)).append(' ');
        Number got = (Number) PuncturesAreViews.class.getDeclaredMethod(name, types).invoke(real, boxed);
        Number want = (Number) Model.class.getDeclaredMethod(name, types).invoke(model, boxed);
        Check.due("the last of " + (got.equals(want) ? "" : log.toString()), got.longValue(), want.longValue());
        return 1;
    }

    /** A text that is good, or nearly, and then perhaps the rule. */
    private int text() throws Exception {
        String tape = "lets" + blank() + sum(3) + blank() + ";" + blank() + "holds" + blank() + sum(2) + ";pumps" + blank()
            + sum(2) + blank() + ";" + blank();
        if (random.nextInt(3) == 0) {
            int at = random.nextInt(tape.length() + 1);
            int to = Math.min(tape.length(), at + random.nextInt(4));
            tape = tape.substring(0, at) + PIECES[random.nextInt(PIECES.length)] + tape.substring(to);
        }
        int calls = 0;
        for (int i = 0; i < tape.length() && i < 161; i++) {
            calls += call("feed", tape.charAt(i));
        }
        return calls + call("text") + call("count", 3) + call("force", model.count(3) - 1);
    }

    private String blank() {
        return random.nextInt(5) == 0 ? "\n" : " ";
    }

    private String sum(int depth) {
        if (depth == 0 || random.nextInt(4) == 0) {
            return random.nextBoolean() ? "" + random.nextInt(random.nextBoolean() ? 10 : 100)
                : PIECES[6 + random.nextInt(6)];
        }
        String between = random.nextBoolean() ? " " : random.nextBoolean() ? "\n " : "";
        String left = sum(depth - 1);
        String right = sum(depth - 1);
        return switch (random.nextInt(10)) {
            case 0 -> "(" + left + " or " + right + ")";
            case 1 -> "(" + left + " and not " + right + ")";
            case 2 -> "(not " + left + ")*" + right;
            case 3 -> "(" + left + between + "<" + right + ")*" + sum(0);
            case 4 -> "(" + left + "=" + between + right + ")+" + sum(0);
            case 5 -> left + between + "-" + right;
            case 6 -> "- " + left + "+" + right;
            case 7 -> left + "*" + between + right;
            case 8 -> "(" + left + "+" + right + ")*" + sum(0);
            default -> left + between + "+" + right;
        };
    }
}
