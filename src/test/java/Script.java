import java.lang.reflect.InvocationTargetException;
import java.lang.reflect.Method;
import java.util.ArrayList;
import java.util.HashMap;
import java.util.List;
import java.util.Map;

/**
 * Runs calls in the notation of the document's examples on a new object:
 * "edit(0, 0, 10) -> 1; tip(7) -> throws IndexOutOfBoundsException". A text in quotation marks
 * stands for the calls that append it. Calls stand on lines of their own or between semicolons.
 *
 * Short forms: "index", "argument", "state" and "missing" stand for the exceptions; "refused 5 2" for the
 * UnsupportedOperationException and the answers of refusal; read("f0") -> 1 for appending and reading;
 * error("f0;") -> 3 for a text with this error position; write(0) -> "0 e: 0 0 0 0 0 0" for all characters of a line.
 */
final class Script {
    /** A call with its arguments; what is due is null where any answer will do. */
    record Call(Method method, Object[] arguments, String due) {
        String shown() {
            StringBuilder text = new StringBuilder(method.getName()).append('(');
            for (int i = 0; i < arguments.length; i++) {
                text.append(i == 0 ? "" : ", ").append(arguments[i]);
            }
            return text.append(')').toString();
        }

        boolean isThrowing() {
            return due != null && due.startsWith("throws ");
        }
    }

    private static final Map<String, Method> METHODS = new HashMap<>();
    private static final Map<String, String> SHORT = Map.of(
            "index", "throws IndexOutOfBoundsException", "argument", "throws IllegalArgumentException",
            "state", "throws IllegalStateException", "missing", "throws NoSuchElementException",
            "refused", "throws UnsupportedOperationException");

    static {
        for (Method method : RecipeForests.class.getDeclaredMethods()) {
            if (java.lang.reflect.Modifier.isPublic(method.getModifiers())) {
                METHODS.put(method.getName(), method);
            }
        }
    }

    private int wrong = 0;
    private int calls = 0;

    int wrong() {
        return wrong;
    }

    int calls() {
        return calls;
    }

    void run(String title, String... parts) {
        run(title, parse(parts));
    }

    void run(String title, List<Call> all) {
        RecipeForests forests = new RecipeForests();
        for (Call call : all) {
            String got = answer(forests, call);
            calls++;
            fault(call.due() != null && !got.equals(call.due()),
                    title + ": " + call.shown() + " answered " + got + ", due is " + call.due());
        }
    }

    void fault(boolean isSo, String what) {
        if (isSo) {
            wrong++;
            System.out.println(what);
        }
    }

    void finish(String what) {
        System.out.println(what + ": " + calls + " calls, " + wrong + " answers are not as due");
        if (wrong != 0 || calls == 0) {
            System.exit(1);
        }
    }

    static List<Call> parse(String... parts) {
        List<Call> all = new ArrayList<>();
        for (String statement : statements(String.join("\n", parts))) {
            int arrow = statement.lastIndexOf("->");
            if (arrow < 0) {
                throw new IllegalArgumentException("no arrow in " + statement);
            }
            addCalls(all, statement.substring(0, arrow).trim(), statement.substring(arrow + 2).trim());
        }
        return all;
    }

    private static List<String> statements(String text) {
        List<String> all = new ArrayList<>();
        StringBuilder current = new StringBuilder();
        boolean isQuoted = false;
        for (char c : (text + "\n").toCharArray()) {
            isQuoted ^= c == '"';
            if (!isQuoted && (c == ';' || c == '\n')) {
                if (!current.toString().isBlank()) {
                    all.add(current.toString().trim());
                }
                current.setLength(0);
            } else {
                current.append(c);
            }
        }
        return all;
    }

    private static void addCalls(List<Call> all, String call, String due) {
        int open = call.indexOf('(');
        String name = call.substring(0, open);
        String inside = call.substring(open + 1, call.length() - 1).trim();
        if (inside.startsWith("\"")) {
            addText(all, name, inside.substring(1, inside.length() - 1), due);
        } else if (name.equals("write")) {
            addLine(all, inside, due.substring(1, due.length() - 1));
        } else {
            addCall(all, name, arguments(inside), due);
        }
    }

    private static void addText(List<Call> all, String name, String text, String due) {
        for (int i = 0; i < text.length(); i++) {
            boolean isDue = name.equals("append") && i == text.length() - 1;
            addCall(all, "append", new Object[] {text.charAt(i)}, isDue ? due : null);
        }
        if (name.equals("read")) {
            addCall(all, "read", new Object[0], due);
        } else if (name.equals("error")) {
            addCall(all, "read", new Object[0], "argument");
            addCall(all, "errorPosition", new Object[0], due);
        }
    }

    private static void addLine(List<Call> all, String commit, String text) {
        addCall(all, "line", arguments(commit), String.valueOf(text.length()));
        for (int i = 0; i < text.length(); i++) {
            addCall(all, "character", new Object[] {i}, "'" + text.charAt(i) + "'");
        }
        addCall(all, "character", new Object[] {text.length()}, "index");
    }

    private static void addCall(List<Call> all, String name, Object[] arguments, String due) {
        Method method = METHODS.get(name);
        if (method == null || method.getParameterCount() != arguments.length) {
            throw new IllegalArgumentException("no method " + name + " with " + arguments.length + " arguments");
        }
        String[] words = due == null ? new String[] {""} : due.split(" ");
        all.add(new Call(method, arguments, SHORT.getOrDefault(words[0], due)));
        if (words[0].equals("refused") && words.length == 3) {
            addCall(all, "refusal", new Object[] {false}, words[1]);
            addCall(all, "refusal", new Object[] {true}, words[2]);
        }
    }

    private static Object[] arguments(String inside) {
        String[] words = inside.isEmpty() ? new String[0] : inside.split(",");
        Object[] arguments = new Object[words.length];
        for (int i = 0; i < words.length; i++) {
            String word = words[i].trim();
            if (word.equals("true") || word.equals("false")) {
                arguments[i] = Boolean.valueOf(word);
            } else {
                arguments[i] = Integer.valueOf(word);
            }
        }
        return arguments;
    }

    static String answer(RecipeForests forests, String name, Object... arguments) {
        return answer(forests, new Call(METHODS.get(name), arguments, null));
    }

    static String answer(RecipeForests forests, Call call) {
        try {
            Object result = call.method().invoke(forests, call.arguments());
            return result instanceof Character ? "'" + result + "'" : String.valueOf(result);
        } catch (InvocationTargetException e) {
            return "throws " + e.getCause().getClass().getSimpleName();
        } catch (IllegalAccessException e) {
            throw new IllegalStateException(e);
        }
    }
}
