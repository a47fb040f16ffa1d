import java.lang.reflect.InvocationTargetException;
import java.lang.reflect.Method;
import java.util.ArrayList;
import java.util.List;

/**
 * Runs calls in the notation of the document's examples on a new object:
 * "edit(0, 0, 10) -> 1; tip(7) -> throws IndexOutOfBoundsException". A text in quotation marks
 * stands for the calls that append it. Calls stand on lines of their own or between semicolons.
 */
final class Script {
    private int wrong = 0;
    private int calls = 0;

    int wrong() {
        return wrong;
    }

    int calls() {
        return calls;
    }

    void run(String title, String... parts) {
        RecipeForests forests = new RecipeForests();
        for (String statement : statements(String.join("\n", parts))) {
            int arrow = statement.lastIndexOf("->");
            if (arrow < 0) {
                throw new IllegalArgumentException("no arrow in " + statement);
            }
            String call = statement.substring(0, arrow).trim();
            String due = statement.substring(arrow + 2).trim();
            String got = answer(forests, call);
            calls++;
            if (!got.equals(due)) {
                wrong++;
                System.out.println(title + ": " + call + " answered " + got + ", due is " + due);
            }
        }
    }

    void finish(String what) {
        System.out.println(what + ": " + calls + " calls, " + wrong + " answers are not as due");
        if (wrong != 0 || calls == 0) {
            System.exit(1);
        }
    }

    private static List<String> statements(String text) {
        List<String> all = new ArrayList<>();
        StringBuilder current = new StringBuilder();
        boolean isQuoted = false;
        for (char c : (text + "\n").toCharArray()) {
            isQuoted ^= c == '"';
            if (!isQuoted && (c == ';' || c == '\n')) {
                if (!current.toString().isBlank()) {
                    all.add(current.toString().trim());
                }
                current.setLength(0);
            } else {
                current.append(c);
            }
        }
        return all;
    }

    private static String answer(RecipeForests forests, String call) {
        int open = call.indexOf('(');
        String name = call.substring(0, open);
        String inside = call.substring(open + 1, call.length() - 1).trim();
        if (inside.startsWith("\"")) {
            String result = "";
            for (char c : inside.substring(1, inside.length() - 1).toCharArray()) {
                result = invoke(forests, name, new Object[] {c});
            }
            return result;
        }
        String[] words = inside.isEmpty() ? new String[0] : inside.split(",");
        Object[] arguments = new Object[words.length];
        for (int i = 0; i < words.length; i++) {
            String word = words[i].trim();
            if (word.equals("true") || word.equals("false")) {
                arguments[i] = Boolean.valueOf(word);
            } else {
                arguments[i] = Integer.valueOf(word);
            }
        }
        return invoke(forests, name, arguments);
    }

    private static String invoke(RecipeForests forests, String name, Object[] arguments) {
        for (Method method : RecipeForests.class.getMethods()) {
            if (method.getName().equals(name) && method.getParameterCount() == arguments.length) {
                try {
                    Object result = method.invoke(forests, arguments);
                    return result instanceof Character ? "'" + result + "'" : String.valueOf(result);
                } catch (InvocationTargetException e) {
                    return "throws " + e.getCause().getClass().getSimpleName();
                } catch (IllegalAccessException e) {
                    throw new IllegalStateException(e);
                }
            }
        }
        throw new IllegalArgumentException("no method " + name);
    }
}
