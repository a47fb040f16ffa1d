import java.util.ArrayDeque;
import java.util.ArrayList;
import java.util.Arrays;
import java.util.Collections;
import java.util.Deque;
import java.util.List;
import java.util.NoSuchElementException;
import java.util.TreeSet;
import java.util.regex.Matcher;
import java.util.regex.Pattern;

/** A second program for the same document, in plain Java with the library; slow, and written for being read. */
final class Model {
    /** A commit knows all its ancestors and never changes. */
    private record Commit(int number, int kind, int first, int second, List<Integer> amounts, TreeSet<Integer> ancestors) { }

    /** Never changed: each change makes another one. */
    private record State(List<Commit> commits, List<Integer> tips, int purpose, List<Integer> places) { }

    private static final class Refused extends RuntimeException {
        private static final long serialVersionUID = 1L;
    }

    private static final String ORDER =
            "(?:e\\d\\.\\d=\\d\\d?|f\\d|m\\d<\\d!\\d|[pv]\\d<\\d\\d?!\\d|r\\d=\\d\\d?)";
    private static final Pattern TEXT = Pattern.compile(ORDER + "(?:;" + ORDER + ")*");

    private State state;
    private State snapshot;
    private final Deque<State> past = new ArrayDeque<>();
    private final StringBuilder input = new StringBuilder();
    private String line = "";
    private int errorPosition = -1;
    private int reason = -1;
    private int detail = -1;

    Model() {
        Commit root = new Commit(0, 0, -1, -1, Collections.nCopies(6, 0), new TreeSet<>());
        state = new State(List.of(root), List.of(0), -1, List.of(-1, -1, -1, -1));
    }

    /** The answer as a text, or "throws" and the name of the exception. */
    String call(String name, int... a) {
        try {
            return String.valueOf(answer(name, a));
        } catch (Refused e) {
            return "throws UnsupportedOperationException";
        } catch (RuntimeException e) {
            return "throws " + e.getClass().getSimpleName();
        }
    }

    private Object answer(String name, int[] a) {
        switch (name) {
            case "edit": case "fork": case "reset": case "merge": case "pick": case "revert": case "bundle": case "put": case "play":
                return changed(name, a);
            case "tip": return tip(a[0]);
            case "amount": return commit(a[0]).amounts().get(ingredient(a[1]));
            case "commitOf": return commitOf(commit(a[0]), a[1]);
            case "conflicts": return conflictsOf(rowOf(tip(a[0])), rowOf(tip(a[1])), rowOf(baseOf(tip(a[0]), tip(a[1])))).size();
            case "isIn": { commit(a[0]); return isIn(a[0], commit(a[1])); }
            case "base": case "baseAgain": return baseOf(commit(a[0]).number(), commit(a[1]).number());
            case "difference": return difference(commit(a[0]), commit(a[1]));
            case "onLine": return onLine(a[0], a[1]);
            case "halve": return halve(a[0], a[1], a[2], a[3] != 0);
            case "firstBad": return firstBad(a[0], a[1], a[2]);
            case "blame": return blame(a[0], a[1]);
            case "taste": return taste(commit(a[0]));
            case "tasteBits": return Float.floatToIntBits(taste(commit(a[0])));
            case "tastiest": return tastiest(a[0]);
            case "inBundle": return inBundle(a[0]);
            case "line": { line = lineOf(commit(a[0])); return line.length(); }
            case "character": {
                need(a[0] >= 0 && a[0] < line.length(), new IndexOutOfBoundsException());
                return "'" + line.charAt(a[0]) + "'";
            }
            case "append": {
                need(input.length() < 60, new IllegalStateException());
                return input.append((char) a[0]).length();
            }
            case "read": return read();
            case "errorPosition": return errorPosition;
            case "refusal": {
                need(reason >= 0, new NoSuchElementException());
                return a[0] != 0 ? detail : reason;
            }
            case "account": return account(a[0]);
            case "isWell": return true;
            case "meanTaste": return meanTaste();
            case "editShare": return (float) countOf(0) / (float) state.commits().size();
            case "undo": {
                need(!past.isEmpty(), new IllegalStateException());
                state = past.removeLast();
                return past.size();
            }
            case "save": { snapshot = state; return state.commits().size(); }
            case "restore": {
                need(snapshot != null, new IllegalStateException());
                state = snapshot;
                past.clear();
                return state.commits().size();
            }
            default: throw new IllegalStateException(name);
        }
    }

    private int changed(String name, int[] a) {
        State old = state;
        try {
            int result = change(name, a);
            remember(old);
            return result;
        } catch (RuntimeException e) {
            state = old;
            throw e;
        }
    }

    private void remember(State old) {
        past.addLast(old);
        if (past.size() > 8) {
            past.removeFirst();
        }
    }

    private int change(String name, int[] a) {
        switch (name) {
            case "edit": return edit(a[0], a[1], a[2]);
            case "fork": return fork(a[0]);
            case "reset": return reset(a[0], a[1]);
            case "merge": return merge(a[0], a[1], a[2]);
            case "pick": return pick(a[0], a[1], a[2]);
            case "revert": return revert(a[0], a[1], a[2]);
            case "bundle": return bundle(a[0]);
            case "put": return put(a[0], a[1]);
            default: return play(a[0], a[1]);
        }
    }

    private static void need(boolean isSo, RuntimeException otherwise) {
        if (!isSo) {
            throw otherwise;
        }
    }

    private void refuseIf(boolean isSo, int why, int what) {
        if (isSo) {
            reason = why;
            detail = what;
            throw new Refused();
        }
    }

    private int tip(int branch) {
        need(branch >= 0 && branch < state.tips().size(), new IndexOutOfBoundsException());
        return state.tips().get(branch);
    }

    private Commit commit(int number) {
        need(number >= 0 && number < state.commits().size(), new IndexOutOfBoundsException());
        return state.commits().get(number);
    }

    private static int ingredient(int ingredient) {
        need(ingredient >= 0 && ingredient < 6, new IndexOutOfBoundsException());
        return ingredient;
    }

    private static void needRule(int rule) {
        need(rule >= 0 && rule <= 3, new IllegalArgumentException());
    }

    private List<Integer> rowOf(int commit) {
        return commit(commit).amounts();
    }

    private static boolean isIn(int number, Commit other) {
        return other.number() == number || other.ancestors().contains(number);
    }

    private int baseOf(int one, int other) {
        TreeSet<Integer> common = new TreeSet<>(commit(one).ancestors());
        common.add(one);
        TreeSet<Integer> others = new TreeSet<>(commit(other).ancestors());
        others.add(other);
        common.retainAll(others);
        return common.last();
    }

    private static List<Integer> conflictsOf(List<Integer> one, List<Integer> other, List<Integer> ground) {
        List<Integer> all = new ArrayList<>();
        for (int i = 0; i < 6; i++) {
            boolean isOneChanged = !one.get(i).equals(ground.get(i));
            boolean isOtherChanged = !other.get(i).equals(ground.get(i));
            if (isOneChanged && isOtherChanged && !one.get(i).equals(other.get(i))) {
                all.add(i);
            }
        }
        return all;
    }

    private static List<Integer> together(List<Integer> one, List<Integer> other, List<Integer> ground, int rule) {
        List<Integer> conflicts = conflictsOf(one, other, ground);
        List<Integer> row = new ArrayList<>();
        for (int i = 0; i < 6; i++) {
            int mean = (one.get(i) + other.get(i)) >> 1;
            if (conflicts.contains(i)) {
                row.add(rule == 1 ? one.get(i) : rule == 2 ? other.get(i) : Integer.valueOf(mean));
            } else {
                row.add(one.get(i).equals(ground.get(i)) ? other.get(i) : one.get(i));
            }
        }
        return row;
    }

    private int addCommit(int branch, int kind, int second, List<Integer> row) {
        refuseIf(state.commits().size() == 24, 1, 24);
        int first = tip(branch);
        TreeSet<Integer> ancestors = new TreeSet<>(commit(first).ancestors());
        ancestors.add(first);
        if (second >= 0) {
            ancestors.addAll(commit(second).ancestors());
            ancestors.add(second);
        }
        List<Commit> commits = new ArrayList<>(state.commits());
        commits.add(new Commit(commits.size(), kind, first, second, row, ancestors));
        state = new State(commits, state.tips(), state.purpose(), state.places());
        moveTip(branch, commits.size() - 1);
        return commits.size() - 1;
    }

    private void moveTip(int branch, int commit) {
        List<Integer> tips = new ArrayList<>(state.tips());
        tips.set(branch, commit);
        state = new State(state.commits(), tips, state.purpose(), state.places());
    }

    private int edit(int branch, int ingredient, int amount) {
        int tip = tip(branch);
        ingredient(ingredient);
        need(amount >= 0 && amount <= 99, new IllegalArgumentException());
        List<Integer> row = new ArrayList<>(rowOf(tip));
        refuseIf(row.set(ingredient, amount) == amount, 2, amount);
        return addCommit(branch, 0, -1, row);
    }

    private int fork(int branch) {
        int tip = tip(branch);
        refuseIf(state.tips().size() == 5, 1, 5);
        List<Integer> tips = new ArrayList<>(state.tips());
        tips.add(tip);
        state = new State(state.commits(), tips, state.purpose(), state.places());
        return tips.size() - 1;
    }

    private int reset(int branch, int commit) {
        int tip = tip(branch);
        commit(commit);
        refuseIf(tip == commit, 3, tip);
        moveTip(branch, commit);
        return tip;
    }

    private int merge(int branch, int other, int rule) {
        int one = tip(branch);
        int two = tip(other);
        needRule(rule);
        refuseIf(isIn(two, commit(one)), 4, two);
        if (isIn(one, commit(two))) {
            moveTip(branch, two);
            return two;
        }
        List<Integer> ground = rowOf(baseOf(one, two));
        List<Integer> conflicts = conflictsOf(rowOf(one), rowOf(two), ground);
        refuseIf(rule == 0 && !conflicts.isEmpty(), 5, conflicts.isEmpty() ? -1 : conflicts.get(0));
        return addCommit(branch, 1, two, together(rowOf(one), rowOf(two), ground, rule));
    }

    private int pick(int branch, int number, int rule) {
        int tip = tip(branch);
        Commit commit = commit(number);
        needRule(rule);
        refuseIf(isIn(number, commit(tip)), 4, number);
        return pickRow(branch, commit.amounts(), rowOf(commit.first()), rule);
    }

    private int revert(int branch, int number, int rule) {
        int tip = tip(branch);
        Commit commit = commit(number);
        needRule(rule);
        refuseIf(number == 0, 6, 0);
        refuseIf(!isIn(number, commit(tip)), 8, number);
        return pickRow(branch, rowOf(commit.first()), commit.amounts(), rule);
    }

    private int pickRow(int branch, List<Integer> other, List<Integer> ground, int rule) {
        int tip = tip(branch);
        List<Integer> conflicts = conflictsOf(rowOf(tip), other, ground);
        refuseIf(rule == 0 && !conflicts.isEmpty(), 5, conflicts.isEmpty() ? -1 : conflicts.get(0));
        List<Integer> row = together(rowOf(tip), other, ground, rule);
        refuseIf(row.equals(rowOf(tip)), 7, tip);
        return addCommit(branch, 2, -1, row);
    }

    private int bundle(int what) {
        need(what >= 0 && what <= 2, new IllegalArgumentException());
        int count = bundledCount();
        state = new State(state.commits(), state.tips(), what, List.of(-1, -1, -1, -1));
        return count;
    }

    private int bundledCount() {
        return 4 - Collections.frequency(state.places(), -1);
    }

    private int put(int place, int number) {
        need(place >= 0 && place < 4, new IndexOutOfBoundsException());
        Commit commit = commit(number);
        refuseIf(state.purpose() == -1, 9, -1);
        refuseIf(state.purpose() != commit.kind(), 9, state.purpose());
        refuseIf(state.places().contains(number), 10, state.places().indexOf(number));
        List<Integer> places = new ArrayList<>(state.places());
        places.set(place, number);
        state = new State(state.commits(), state.tips(), state.purpose(), places);
        return bundledCount();
    }

    private int inBundle(int place) {
        need(place >= 0 && place < 4, new IndexOutOfBoundsException());
        need(state.places().get(place) != -1, new NoSuchElementException());
        return state.places().get(place);
    }

    private int play(int branch, int rule) {
        tip(branch);
        needRule(rule);
        refuseIf(bundledCount() == 0, 11, state.purpose());
        int count = 0;
        for (int commit : state.places()) {
            if (commit != -1) {
                pick(branch, commit, rule);
                count++;
            }
        }
        return count;
    }

    private int commitOf(Commit commit, int what) {
        switch (what) {
            case 0: return commit.kind();
            case 1: return commit.first();
            case 2: return commit.second();
            case 3: return commit.first() < 0 ? 0 : changedIngredients(commit);
            case 4: return commit.ancestors().size();
            case 5: return longest(commit);
            default: throw new IllegalArgumentException();
        }
    }

    private int changedIngredients(Commit commit) {
        int count = 0;
        for (int i = 0; i < 6; i++) {
            count += commit.amounts().get(i).equals(rowOf(commit.first()).get(i)) ? 0 : 1;
        }
        return count;
    }

    private int longest(Commit commit) {
        int[] lengths = new int[commit.number() + 1];
        for (int i = 1; i <= commit.number(); i++) {
            Commit each = commit(i);
            lengths[i] = 1 + lengths[each.first()];
            if (each.second() >= 0) {
                lengths[i] = Math.max(lengths[i], 1 + lengths[each.second()]);
            }
        }
        return lengths[commit.number()];
    }

    private static int difference(Commit one, Commit other) {
        int sum = 0;
        for (int i = 0; i < 6; i++) {
            int difference = one.amounts().get(i) - other.amounts().get(i);
            sum += difference < 0 ? -difference : difference;
        }
        return sum;
    }

    private List<Commit> lineFrom(int branch) {
        List<Commit> commits = new ArrayList<>();
        for (int number = tip(branch); number >= 0; number = commit(number).first()) {
            commits.add(commit(number));
        }
        return commits;
    }

    private int onLine(int branch, int place) {
        List<Commit> commits = lineFrom(branch);
        need(place >= 0 && place < commits.size(), new NoSuchElementException());
        return commits.get(place).number();
    }

    private static boolean isBad(Commit commit, int ingredient, int limit) {
        return commit.amounts().get(ingredient) > limit;
    }

    private int halve(int branch, int ingredient, int limit, boolean isLooks) {
        List<Commit> commits = lineFrom(branch);
        ingredient(ingredient);
        need(limit >= 0 && limit <= 99, new IllegalArgumentException());
        need(isBad(commits.get(0), ingredient, limit), new NoSuchElementException());
        int looks = 0;
        // What is left always begins with a bad commit and ends with one that is not.
        while (commits.size() > 2) {
            int middle = (commits.size() - 1) / 2;
            looks++;
            commits = isBad(commits.get(middle), ingredient, limit)
                    ? commits.subList(middle, commits.size()) : commits.subList(0, middle + 1);
        }
        return isLooks ? looks : commits.get(0).number();
    }

    private int firstBad(int branch, int ingredient, int limit) {
        List<Commit> commits = lineFrom(branch);
        ingredient(ingredient);
        need(limit >= 0 && limit <= 99, new IllegalArgumentException());
        Collections.reverse(commits);
        for (Commit commit : commits) {
            if (isBad(commit, ingredient, limit)) {
                return commit.number();
            }
        }
        throw new NoSuchElementException();
    }

    private int blame(int branch, int ingredient) {
        List<Commit> commits = lineFrom(branch);
        ingredient(ingredient);
        for (Commit commit : commits) {
            if (commit.first() >= 0 && !rowOf(commit.first()).get(ingredient).equals(commit.amounts().get(ingredient))) {
                return commit.number();
            }
        }
        return 0;
    }

    private static float taste(Commit commit) {
        float taste = 0.0f;
        int sum = 0;
        for (int i = 0; i < 6; i++) {
            taste = taste + commit.amounts().get(i) * (i + 1) / 8.0f;
            sum += commit.amounts().get(i);
        }
        return taste / (float) (sum + 1);
    }

    private int tastiest(int branch) {
        int best = -1;
        float greatest = -1.0f;
        for (Commit commit : lineFrom(branch)) {
            if (taste(commit) >= greatest) {
                greatest = taste(commit);
                best = commit.number();
            }
        }
        return best;
    }

    private static String lineOf(Commit commit) {
        StringBuilder text = new StringBuilder(commit.number() + " " + "emp".charAt(commit.kind()) + ":");
        commit.amounts().forEach(amount -> text.append(' ').append(amount));
        return text.toString();
    }

    private double meanTaste() {
        double sum = 0.0;
        for (int tip : state.tips()) {
            sum += taste(commit(tip));
        }
        return sum / state.tips().size();
    }

    private long countOf(int kind) {
        return state.commits().stream().filter(commit -> commit.kind() == kind).count();
    }

    private long account(int what) {
        TreeSet<Integer> reached = new TreeSet<>(state.tips());
        state.tips().forEach(tip -> reached.addAll(commit(tip).ancestors()));
        switch (what) {
            case 0: return state.commits().size();
            case 1: return state.tips().size();
            case 2: case 3: case 4: return countOf(what - 2);
            case 5: return state.commits().size() - reached.size();
            case 6: return state.purpose();
            case 7: return bundledCount();
            case 8: return state.tips().stream().flatMap(tip -> rowOf(tip).stream()).mapToInt(i -> i).sum();
            case 9: return input.length();
            case 10: return past.size();
            default: throw new IllegalArgumentException();
        }
    }

    private int read() {
        String text = input.toString();
        input.setLength(0);
        errorPosition = errorPositionOf(text);
        need(errorPosition < 0, new IllegalArgumentException());
        State old = state;
        String[] all = text.split(";");
        try {
            for (String order : all) {
                carryOut(order);
            }
        } catch (Refused e) {
            state = old;
            throw e;
        } catch (RuntimeException e) {
            state = old;
            throw new IllegalArgumentException();
        }
        remember(old);
        return all.length;
    }

    /** The length of the longest beginning that a text could still begin with, by the regular expression alone. */
    static int errorPositionOf(String text) {
        if (TEXT.matcher(text).matches()) {
            return -1;
        }
        for (int length = 1; length <= text.length(); length++) {
            Matcher matcher = TEXT.matcher(text.substring(0, length));
            if (!matcher.matches() && !matcher.hitEnd()) {
                return length - 1;
            }
        }
        return text.length();
    }

    private void carryOut(String order) {
        int[] n = Arrays.stream(order.substring(1).split("\\D")).mapToInt(Integer::parseInt).toArray();
        switch (order.charAt(0)) {
            case 'e': edit(n[0], n[1], n[2]); break;
            case 'f': fork(n[0]); break;
            case 'm': merge(n[0], n[1], n[2]); break;
            case 'p': pick(n[0], n[1], n[2]); break;
            case 'v': revert(n[0], n[1], n[2]); break;
            default: reset(n[0], n[1]);
        }
    }
}
