import java.util.ArrayList;
import java.util.List;
import java.util.Set;

/**
 * Runs one case for each sentence of the document that names a boundary. Each call of each case is looked at from
 * outside, too: what a call that throws or only asks leaves as it is, and what undo and restore bring back.
 */
final class Edges {
    private static final Set<String> CHANGES =
            Set.of("edit", "fork", "reset", "merge", "pick", "revert", "bundle", "put", "play", "read");
    private static final int CALLS = 512;
    private static final int PROMISES = 39;

    private final Script script = new Script();
    private final int[] cases = new int[PROMISES + 1];

    void at(int promise, String sentence, String... parts) {
        cases[promise]++;
        String title = "promise " + promise + ", " + sentence;
        List<Script.Call> calls = Script.parse(parts);
        script.run(title, calls);
        lookAround(title, calls);
    }

    /** A case that a script can't tell. */
    void due(int promise, String sentence, boolean isSo) {
        cases[promise]++;
        script.fault(!isSo, "promise " + promise + ", " + sentence + ": is not so");
    }

    void finish(String what, int first, int last) {
        int sum = 0;
        for (int promise = first; promise <= last; promise++) {
            sum += cases[promise];
            script.fault(cases[promise] == 0, "promise " + promise + " has no case");
        }
        System.out.print(sum + " cases; ");
        script.finish(what);
    }

    /** Edits of the branch 0, so that the commits go up to 23, which is the last one that is kept. */
    static String fill(int from) {
        return fill(from, 23);
    }

    static String fill(int from, int to) {
        StringBuilder text = new StringBuilder();
        for (int commit = from; commit <= to; commit++) {
            text.append("edit(0, 5, ").append(commit).append(") -> ").append(commit).append(';');
        }
        return text.toString();
    }

    private void lookAround(String title, List<Script.Call> calls) {
        Sight before = Sight.after(calls.subList(0, 0));
        for (int i = 0; i < calls.size(); i++) {
            Script.Call call = calls.get(i);
            String name = call.method().getName();
            List<Script.Call> first = calls.subList(0, i);
            List<Script.Call> both = calls.subList(0, i + 1);
            Sight after = Sight.after(both);
            String where = title + ": at " + call.shown() + " ";
            script.fault(after.calls > CALLS, where + "there are too many calls");
            checkTexts(where, call, before, after);
            if (call.isThrowing()) {
                checkSame(where, first, both);
            } else if (CHANGES.contains(name)) {
                checkWayBack(where, first, call);
            } else if (!name.equals("undo") && !name.equals("restore")) {
                script.fault(!before.forest().equals(after.forest()), where + "the forest is otherwise");
            }
            before = after;
        }
    }

    /** The input, the line, the error position and the reason stay, but for the calls that are made for them. */
    private void checkTexts(String where, Script.Call call, Sight before, Sight after) {
        String name = call.method().getName();
        boolean isRefused = "throws UnsupportedOperationException".equals(call.due());
        boolean isRead = name.equals("read");
        script.fault(isRead && !after.input.equals("0"), where + "the input is not empty");
        script.fault(!isRead && !name.equals("append") && !before.input.equals(after.input), where + "the input is otherwise");
        script.fault(!isRead && !before.position.equals(after.position), where + "the error position is otherwise");
        script.fault(!isRefused && !before.refusal.equals(after.refusal), where + "the reason is otherwise");
        boolean isWriting = name.equals("line") && !call.isThrowing();
        script.fault(!isWriting && !before.line.equals(after.line), where + "the line is otherwise");
    }

    /** What is there, what can be undone and the snapshot. */
    private void checkSame(String where, List<Script.Call> first, List<Script.Call> both) {
        script.fault(!Sight.after(first).forest().equals(Sight.after(both).forest()), where + "the state is otherwise");
        for (String more : new String[] {"undo() -> 0", "undo() -> 0;".repeat(8), "restore() -> 0"}) {
            boolean isSame = Sight.after(joined(first, more)).forest().equals(Sight.after(joined(both, more)).forest());
            script.fault(!isSame, where + "the state is otherwise behind " + more);
        }
    }

    /** A change is one change to undo, and is no longer there after undo, nor after restore of what was before. */
    private void checkWayBack(String where, List<Script.Call> first, Script.Call change) {
        Sight before = Sight.after(first);
        Sight saved = Sight.after(joined(first, "save() -> 0"));
        List<Script.Call> both = joined(first, "");
        both.add(change);
        Sight after = Sight.after(both);
        Sight undone = Sight.after(joined(both, "undo() -> 0"));
        List<Script.Call> kept = joined(first, "save() -> 0");
        kept.add(change);
        Sight restored = Sight.after(joined(kept, "restore() -> 0"));
        int due = Math.min(8, Integer.parseInt(before.undos) + 1);
        script.fault(!after.undos.equals("" + due), where + "there are " + after.undos + " changes to undo, due is " + due);
        script.fault(!undone.undos.equals("" + (due - 1)), where + "undo leaves " + undone.undos + " changes");
        script.fault(!undone.things.equals(before.things), where + "undo does not bring back what was there");
        script.fault(!saved.forest().equals(before.forest()), where + "save makes it otherwise");
        script.fault(!restored.things.equals(before.things), where + "restore does not bring back what was there");
        script.fault(!restored.undos.equals("0"), where + "restore leaves changes to undo");
    }

    private static List<Script.Call> joined(List<Script.Call> calls, String more) {
        List<Script.Call> all = new ArrayList<>(calls);
        all.addAll(Script.parse(more));
        return all;
    }

    /** All that can be asked of an object after some calls. */
    private static final class Sight {
        private final RecipeForests forests = new RecipeForests();
        private int calls = 0;
        private final String things;
        private final String undos;
        private final String input;
        private final String position;
        private final String refusal;
        private final String line;

        private Sight(List<Script.Call> all) {
            for (Script.Call call : all) {
                Script.answer(forests, call);
                calls++;
            }
            things = thingsSeen();
            undos = ask("account", 10);
            input = ask("account", 9);
            position = ask("errorPosition");
            refusal = ask("refusal", false) + " " + ask("refusal", true);
            line = lineSeen();
        }

        static Sight after(List<Script.Call> calls) {
            return new Sight(calls);
        }

        String forest() {
            return things + "undos " + undos;
        }

        private String ask(String name, Object... arguments) {
            calls++;
            return Script.answer(forests, name, arguments);
        }

        private String thingsSeen() {
            StringBuilder text = new StringBuilder();
            for (int what = 0; what <= 8; what++) {
                text.append(ask("account", what)).append(' ');
            }
            int commits = Integer.parseInt(ask("account", 0));
            for (int commit = 0; commit < commits; commit++) {
                for (int i = 0; i < 6; i++) {
                    text.append(ask("amount", commit, i)).append(' ').append(ask("commitOf", commit, i)).append(' ');
                }
            }
            int branches = Integer.parseInt(ask("account", 1));
            for (int branch = 0; branch < branches; branch++) {
                text.append(ask("tip", branch)).append(' ');
            }
            for (int place = 0; place < 4; place++) {
                text.append(ask("inBundle", place)).append(' ');
            }
            return text.toString();
        }

        private String lineSeen() {
            StringBuilder text = new StringBuilder();
            String sign = ask("character", 0);
            for (int i = 1; i < 30 && !sign.startsWith("throws"); i++) {
                text.append(sign);
                sign = ask("character", i);
            }
            return text.toString();
        }
    }
}
