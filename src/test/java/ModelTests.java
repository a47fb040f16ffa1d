import java.lang.reflect.InvocationTargetException;
import java.lang.reflect.Method;
import java.util.Arrays;
import java.util.HashMap;
import java.util.Map;
import java.util.Random;
import java.util.TreeMap;

/** Long runs of calls, drawn from fixed seeds, on the class and on the model: all answers have to be the same. */
public final class ModelTests {
    private static final int RUNS = 1500;
    private static final int CALLS = 512;
    private static final int SHOWN = 10;
    private static final int[] WILD = {Integer.MIN_VALUE, -2, -1, 24, 25, 99, 100, 1000, Integer.MAX_VALUE};
    // Names stand as often as they are wanted.
    private static final String[] NAMES = {
        "edit", "edit", "edit", "edit", "edit", "edit", "fork", "fork", "reset", "reset", "reset", "tip", "amount", "commitOf", "commitOf",
        "merge", "merge", "merge", "merge", "pick", "pick", "pick", "revert", "revert", "revert", "conflicts", "isIn", "base", "baseAgain",
        "difference", "onLine", "halve", "halve", "firstBad", "blame", "taste", "tasteBits", "tastiest", "bundle", "put", "put", "put",
        "inBundle", "play", "play", "line", "character", "character", "append", "text", "text", "text", "text", "errorPosition",
        "refusal", "refusal", "account", "account", "isWell", "meanTaste", "editShare", "undo", "undo", "save", "restore",
    };

    private static final Map<String, Method> METHODS = new HashMap<>();
    private static final Map<String, Integer> SEEN = new TreeMap<>();
    private static int wrong = 0;

    private final Random random;
    private final int seed;
    private final RecipeForests forests = new RecipeForests();
    private final Model model = new Model();
    private int calls = 0;

    private ModelTests(int seed) {
        this.seed = seed;
        random = new Random(seed);
    }

    public static void main(String[] args) throws IllegalAccessException {
        for (Method method : RecipeForests.class.getDeclaredMethods()) {
            if (java.lang.reflect.Modifier.isPublic(method.getModifiers())) {
                METHODS.put(method.getName(), method);
            }
        }
        for (int seed = 0; seed < RUNS; seed++) {
            new ModelTests(seed).run();
        }
        for (int reason = 1; reason <= 11; reason++) {
            if (SEEN.getOrDefault("refusal " + reason, 0) == 0) {
                wrong++;
                System.out.println("the runs never came to the reason " + reason);
            }
        }
        System.out.println("the model: " + RUNS + " runs, " + wrong + " answers are not as due");
        if (wrong != 0) {
            System.exit(1);
        }
    }

    private void run() throws IllegalAccessException {
        // Some runs seldom undo, so that they get to 24 commits and 5 branches.
        boolean isPatient = seed % 2 == 0;
        while (calls < CALLS) {
            String name = NAMES[random.nextInt(NAMES.length)];
            boolean isBack = name.equals("undo") || name.equals("restore");
            if (name.equals("text")) {
                text();
            } else if (!isBack || !isPatient || random.nextInt(6) == 0) {
                compare(name, argumentsOf(name));
            }
        }
    }

    private void text() throws IllegalAccessException {
        StringBuilder text = new StringBuilder();
        int orders = 1 + random.nextInt(4);
        for (int i = 0; i < orders; i++) {
            text.append(i == 0 ? "" : ";").append(order());
        }
        if (random.nextInt(4) == 0) {
            spoil(text);
        }
        for (char c : text.toString().toCharArray()) {
            compare("append", c);
        }
        compare("read");
        compare("errorPosition");
    }

    private void spoil(StringBuilder text) {
        int place = random.nextInt(text.length());
        char sign = "efmpvr0123456789.=<!; \u1234".charAt(random.nextInt(23));
        switch (random.nextInt(4)) {
            case 0: text.setLength(place); break;
            case 1: text.setCharAt(place, sign); break;
            case 2: text.insert(place, sign); break;
            default: text.deleteCharAt(place);
        }
    }

    private String order() {
        int branch = tame(0, branches() + (random.nextInt(12) == 0 ? 1 : 0));
        int other = tame(0, branches() + (random.nextInt(12) == 0 ? 1 : 0));
        int commit = tame(0, commits() + (random.nextInt(12) == 0 ? 2 : 0));
        String two = random.nextInt(4) == 0 && commit < 10 ? "0" + commit : "" + commit;
        int rule = random.nextInt(random.nextInt(12) == 0 ? 6 : 4);
        switch ("efmpvr".charAt(random.nextInt(6))) {
            case 'e': return "e" + branch + "." + random.nextInt(random.nextInt(12) == 0 ? 10 : 6) + "=" + amount();
            case 'f': return "f" + branch;
            case 'm': return "m" + branch + "<" + other + "!" + rule;
            case 'p': return "p" + branch + "<" + two + "!" + rule;
            case 'v': return "v" + branch + "<" + two + "!" + rule;
            default: return "r" + branch + "=" + two;
        }
    }

    private int tame(int least, int bound) {
        return Math.min(9 * 11, least + random.nextInt(Math.max(1, bound - least)));
    }

    private int commits() {
        return Integer.parseInt(model.call("account", 0));
    }

    private int branches() {
        return Integer.parseInt(model.call("account", 1));
    }

    /** Few amounts come often, so that equal ones and conflicts do, too. */
    private int amount() {
        return random.nextBoolean() ? random.nextInt(4) : random.nextInt(100);
    }

    private int branch() {
        return wild(random.nextInt(branches()), branches());
    }

    private int commit() {
        return wild(random.nextInt(commits()), commits());
    }

    private int ingredient() {
        return wild(random.nextInt(6), 6);
    }

    private int rule() {
        return wild(random.nextInt(4), 4);
    }

    /** Mostly the tame one, sometimes the bound itself or one far out. */
    private int wild(int tame, int bound) {
        int dice = random.nextInt(40);
        return dice == 0 ? bound : dice == 1 ? WILD[random.nextInt(WILD.length)] : tame;
    }

    private int[] argumentsOf(String name) {
        switch (name) {
            case "edit": return new int[] {branch(), ingredient(), wild(amount(), 100)};
            case "fork": case "tip": case "tastiest": return new int[] {branch()};
            case "reset": return new int[] {branch(), commit()};
            case "amount": return new int[] {commit(), ingredient()};
            case "commitOf": return new int[] {commit(), wild(random.nextInt(6), 6)};
            case "merge": return new int[] {branch(), branch(), rule()};
            case "pick": case "revert": return new int[] {branch(), commit(), rule()};
            case "conflicts": return new int[] {branch(), branch()};
            case "isIn": case "base": case "baseAgain": case "difference": return new int[] {commit(), commit()};
            case "onLine": return new int[] {branch(), wild(random.nextInt(10), 24)};
            case "halve": return new int[] {branch(), ingredient(), wild(random.nextInt(6), 100), random.nextInt(2)};
            case "firstBad": return new int[] {branch(), ingredient(), wild(amount(), 100)};
            case "blame": return new int[] {branch(), ingredient()};
            case "taste": case "tasteBits": case "line": return new int[] {commit()};
            case "bundle": return new int[] {wild(random.nextInt(3), 3)};
            case "put": return new int[] {wild(random.nextInt(4), 4), commit()};
            case "inBundle": return new int[] {wild(random.nextInt(4), 4)};
            case "play": return new int[] {branch(), rule()};
            case "character": return new int[] {wild(random.nextInt(20), 23)};
            case "append": return new int[] {random.nextInt(random.nextBoolean() ? 128 : 65536)};
            case "refusal": return new int[] {random.nextInt(2)};
            case "account": return new int[] {wild(random.nextInt(11), 11)};
            default: return new int[0];
        }
    }

    private void compare(String name, int... a) throws IllegalAccessException {
        // A text can be cut off here: what later calls answer is free.
        if (calls >= CALLS) {
            return;
        }
        calls++;
        String due = model.call(name, a);
        String got = answer(name, a);
        SEEN.merge(name + " " + due, 1, Integer::sum);
        if (name.equals("refusal") && a[0] == 1) {
            // Keeps the details out of the count of the reasons.
            SEEN.merge(name + " " + due, -1, Integer::sum);
        }
        if (!got.equals(due)) {
            wrong++;
            if (wrong <= SHOWN) {
                System.out.println("seed " + seed + ", call " + calls + ": " + name + Arrays.toString(a) + " answered " + got + ", due is " + due);
            }
        }
    }

    private String answer(String name, int[] a) throws IllegalAccessException {
        Method method = METHODS.get(name);
        Class<?>[] types = method.getParameterTypes();
        Object[] arguments = new Object[a.length];
        for (int i = 0; i < a.length; i++) {
            if (types[i] == boolean.class) {
                arguments[i] = a[i] != 0;
            } else if (types[i] == char.class) {
                arguments[i] = (char) a[i];
            } else {
                arguments[i] = a[i];
            }
        }
        try {
            Object result = method.invoke(forests, arguments);
            return result instanceof Character ? "'" + result + "'" : String.valueOf(result);
        } catch (InvocationTargetException e) {
            return "throws " + e.getCause().getClass().getSimpleName();
        }
    }
}
