import java.util.NoSuchElementException;

/** A forest of versions of a recipe, as ../shared/DOC.md promises it. */
public final class RecipeForests {
    private static final int COMMITS = 24;
    private static final int BRANCHES = 5;
    private static final int INGREDIENTS = 6;
    private static final int GREATEST_AMOUNT = 99;
    private static final int PLACES = 4;
    private static final int UNDOS = 8;
    private static final int INPUT_SIGNS = 60;
    private static final int LINE_SIGNS = 24;
    // The shortest order has two characters, and a semicolon goes between two.
    private static final int ORDERS = 21;
    private static final int ORDER_WIDTH = 4;

    private static final int NONE = -1;

    private static final int EDIT = 0;
    private static final int MERGE = 1;
    private static final int PICK = 2;
    private static final int LAST_RULE = 3;

    // What a change that can't be made answers in place of its result, which is never negative.
    private static final int NO_SUCH = -1;
    private static final int BAD_ARGUMENT = -2;
    private static final int REFUSED = -3;

    private static final int FULL = 1;
    private static final int SAME_AMOUNT = 2;
    private static final int SAME_TIP = 3;
    private static final int HAD_ALREADY = 4;
    private static final int CONFLICT = 5;
    private static final int NO_PARENT = 6;
    private static final int NOTHING_OTHERWISE = 7;
    private static final int NOT_HAD = 8;
    private static final int NO_FIT = 9;
    private static final int IN_BUNDLE = 10;
    private static final int EMPTY_BUNDLE = 11;

    private final Forest forest;
    private final Forest before;
    private final Forest saved;
    private boolean isSaved;
    private final History history;
    private final Desk desk;
    private final Walk walk;
    private final Input input;
    private final Orders orders;
    private final Line written;
    private int wrongPosition;

    public RecipeForests() {
        Forest trees = new Forest();
        forest = trees;
        before = new Forest();
        saved = new Forest();
        isSaved = false;
        history = new History();
        desk = new Desk(trees);
        walk = new Walk();
        input = new Input();
        orders = new Orders();
        written = new Line();
        wrongPosition = NONE;
    }

    // Commits and branches.

    public int edit(int branch, int ingredient, int amount)
            throws IndexOutOfBoundsException, IllegalArgumentException, UnsupportedOperationException {
        before.become(forest);
        return finished(desk.tryEdit(branch, ingredient, amount));
    }

    public int fork(int branch) throws IndexOutOfBoundsException, UnsupportedOperationException {
        before.become(forest);
        return finished(desk.tryFork(branch));
    }

    public int reset(int branch, int commit) throws IndexOutOfBoundsException, UnsupportedOperationException {
        before.become(forest);
        return finished(desk.tryReset(branch, commit));
    }

    public int tip(int branch) throws IndexOutOfBoundsException {
        needBranch(branch);
        return forest.tipOf(branch);
    }

    public int amount(int commit, int ingredient) throws IndexOutOfBoundsException {
        needCommit(commit);
        needIngredient(ingredient);
        return forest.amountIn(commit, ingredient);
    }

    public int commitOf(int commit, int what) throws IndexOutOfBoundsException, IllegalArgumentException {
        needCommit(commit);
        switch (what) {
            case 0: return forest.kindOf(commit);
            case 1: return forest.firstOf(commit);
            case 2: return forest.secondOf(commit);
            case 3: return forest.changedIn(commit);
            case 4: return Integer.bitCount(forest.familyOf(commit)) - 1;
            case 5: return forest.depthOf(commit);
            default: throw new IllegalArgumentException("there is no such number of a commit");
        }
    }

    // Merges and picks.

    public int merge(int branch, int other, int rule)
            throws IndexOutOfBoundsException, IllegalArgumentException, UnsupportedOperationException {
        before.become(forest);
        return finished(desk.tryMerge(branch, other, rule));
    }

    public int pick(int branch, int commit, int rule)
            throws IndexOutOfBoundsException, IllegalArgumentException, UnsupportedOperationException {
        before.become(forest);
        return finished(desk.tryPick(branch, commit, rule));
    }

    public int revert(int branch, int commit, int rule)
            throws IndexOutOfBoundsException, IllegalArgumentException, UnsupportedOperationException {
        before.become(forest);
        return finished(desk.tryRevert(branch, commit, rule));
    }

    public int conflicts(int branch, int other) throws IndexOutOfBoundsException {
        needBranch(branch);
        needBranch(other);
        return desk.conflictsBetween(forest.tipOf(branch), forest.tipOf(other));
    }

    public boolean isIn(int commit, int other) throws IndexOutOfBoundsException {
        needCommit(commit);
        needCommit(other);
        return forest.hasInFamily(other, commit);
    }

    public int base(int commit, int other) throws IndexOutOfBoundsException {
        needCommit(commit);
        needCommit(other);
        return forest.commonGround(commit, other);
    }

    public int baseAgain(int commit, int other) throws IndexOutOfBoundsException {
        needCommit(commit);
        needCommit(other);
        return forest.meetingPoint(commit, other);
    }

    public int difference(int commit, int other) throws IndexOutOfBoundsException {
        needCommit(commit);
        needCommit(other);
        int sum = 0;
        for (int i = 0; i < INGREDIENTS; i++) {
            sum += Math.abs(forest.amountIn(commit, i) - forest.amountIn(other, i));
        }
        return sum;
    }

    // Lines of branches and blunders.

    public int onLine(int branch, int place) throws IndexOutOfBoundsException, NoSuchElementException {
        needBranch(branch);
        walk.follow(forest, forest.tipOf(branch));
        int commit = walk.at(place);
        if (commit == NONE) {
            throw new NoSuchElementException("there is no such place");
        }
        return commit;
    }

    public int halve(int branch, int ingredient, int limit, boolean isLooks)
            throws IndexOutOfBoundsException, IllegalArgumentException, NoSuchElementException {
        needBranch(branch);
        needIngredient(ingredient);
        needAmount(limit);
        int tip = forest.tipOf(branch);
        if (forest.amountIn(tip, ingredient) <= limit) {
            throw new NoSuchElementException("the tip is not bad");
        }
        walk.follow(forest, tip);
        int bad = walk.searchByHalves(forest, ingredient, limit);
        return isLooks ? walk.looksTaken() : bad;
    }

    public int firstBad(int branch, int ingredient, int limit)
            throws IndexOutOfBoundsException, IllegalArgumentException, NoSuchElementException {
        needBranch(branch);
        needIngredient(ingredient);
        needAmount(limit);
        walk.follow(forest, forest.tipOf(branch));
        int bad = walk.farthestBad(forest, ingredient, limit);
        if (bad == NONE) {
            throw new NoSuchElementException("no commit is bad");
        }
        return bad;
    }

    public int blame(int branch, int ingredient) throws IndexOutOfBoundsException {
        needBranch(branch);
        needIngredient(ingredient);
        walk.follow(forest, forest.tipOf(branch));
        return walk.latestChange(forest, ingredient);
    }

    // Tastes and bundles.

    public float taste(int commit) throws IndexOutOfBoundsException {
        needCommit(commit);
        return forest.tasteOf(commit);
    }

    public int tasteBits(int commit) throws IndexOutOfBoundsException {
        needCommit(commit);
        return bitsOf(forest.tasteOf(commit));
    }

    public int tastiest(int branch) throws IndexOutOfBoundsException {
        needBranch(branch);
        walk.follow(forest, forest.tipOf(branch));
        return walk.farthestBest(forest);
    }

    public int bundle(int what) throws IllegalArgumentException {
        before.become(forest);
        return finished(desk.tryBundle(what));
    }

    public int put(int place, int commit) throws IndexOutOfBoundsException, UnsupportedOperationException {
        before.become(forest);
        return finished(desk.tryPut(place, commit));
    }

    public int inBundle(int place) throws IndexOutOfBoundsException, NoSuchElementException {
        if (!isPlace(place)) {
            throw new IndexOutOfBoundsException("there is no such place");
        }
        int commit = forest.bundledAt(place);
        if (commit == NONE) {
            throw new NoSuchElementException("the place is empty");
        }
        return commit;
    }

    public int play(int branch, int rule)
            throws IndexOutOfBoundsException, IllegalArgumentException, UnsupportedOperationException {
        before.become(forest);
        return finished(desk.tryPlay(branch, rule));
    }

    // Texts, accounts, undo and snapshot.

    public int line(int commit) throws IndexOutOfBoundsException {
        needCommit(commit);
        return written.write(forest, commit);
    }

    public char character(int index) throws IndexOutOfBoundsException {
        if (!written.has(index)) {
            throw new IndexOutOfBoundsException("there is no such index");
        }
        return written.signAt(index);
    }

    public int append(char c) throws IllegalStateException {
        if (input.isFull()) {
            throw new IllegalStateException("the input is full");
        }
        return input.add(c);
    }

    public int read() throws IllegalArgumentException, UnsupportedOperationException {
        wrongPosition = orders.parse(input);
        input.clear();
        if (wrongPosition != NONE) {
            throw new IllegalArgumentException("the text has an error");
        }
        before.become(forest);
        return finished(orders.carryOut(desk));
    }

    public int errorPosition() {
        return wrongPosition;
    }

    public int refusal(boolean isDetail) throws NoSuchElementException {
        if (desk.latestReason() == NONE) {
            throw new NoSuchElementException("nothing was refused");
        }
        return isDetail ? desk.latestDetail() : desk.latestReason();
    }

    public int account(int what) throws IllegalArgumentException {
        switch (what) {
            case 0: return forest.commitCount();
            case 1: return forest.branchCount();
            case 2: return forest.countKind(EDIT);
            case 3: return forest.countKind(MERGE);
            case 4: return forest.countKind(PICK);
            case 5: return forest.countLost();
            case 6: return forest.bundleKind();
            case 7: return forest.bundledCount();
            case 8: return forest.sumOfTips();
            case 9: return input.size();
            case 10: return history.size();
            default: throw new IllegalArgumentException("there is no such account");
        }
    }

    public boolean isWell() {
        for (int commit = 0; commit < forest.commitCount(); commit++) {
            if (!forest.isBornWell(commit) || !forest.areBasesSame(commit)) {
                return false;
            }
        }
        return true;
    }

    public double meanTaste() {
        int count = forest.branchCount();
        if (count < 1) {
            return 0.0;
        }
        double sum = 0.0;
        for (int branch = 0; branch < count; branch++) {
            sum += (double) forest.tasteOf(forest.tipOf(branch));
        }
        return sum / (double) count;
    }

    public float editShare() {
        int count = forest.commitCount();
        if (count < 1) {
            return 0.0f;
        }
        return (float) forest.countKind(EDIT) / (float) count;
    }

    public int undo() throws IllegalStateException {
        if (history.size() < 1) {
            throw new IllegalStateException("no change can be undone");
        }
        return history.takeBack(forest);
    }

    public int save() {
        saved.become(forest);
        isSaved = true;
        return forest.commitCount();
    }

    public int restore() throws IllegalStateException {
        if (!isSaved) {
            throw new IllegalStateException("there is no snapshot");
        }
        forest.become(saved);
        history.forgetAll();
        return forest.commitCount();
    }

    // A play or a text can fail after its first picks or orders: then all of them go.
    private int finished(int result) {
        if (result >= 0) {
            history.keep(before);
            return result;
        }
        forest.become(before);
        if (result == NO_SUCH) {
            throw new IndexOutOfBoundsException("there is no such branch, commit, ingredient or place");
        }
        if (result == BAD_ARGUMENT) {
            throw new IllegalArgumentException("an argument or an order is out of range");
        }
        throw new UnsupportedOperationException("it is refused");
    }

    private void needBranch(int branch) {
        if (!forest.isBranch(branch)) {
            throw new IndexOutOfBoundsException("there is no such branch");
        }
    }

    private void needCommit(int commit) {
        if (!forest.isCommit(commit)) {
            throw new IndexOutOfBoundsException("there is no such commit");
        }
    }

    private void needIngredient(int ingredient) {
        if (!isIngredient(ingredient)) {
            throw new IndexOutOfBoundsException("there is no such ingredient");
        }
    }

    private void needAmount(int limit) {
        if (!isAmount(limit)) {
            throw new IllegalArgumentException("the limit is out of range");
        }
    }

    private static boolean isIngredient(int ingredient) {
        return ingredient >= 0 && ingredient < INGREDIENTS;
    }

    private static boolean isAmount(int amount) {
        return amount >= 0 && amount <= GREATEST_AMOUNT;
    }

    private static boolean isRule(int rule) {
        return rule >= 0 && rule <= LAST_RULE;
    }

    private static boolean isPlace(int place) {
        return place >= 0 && place < PLACES;
    }

    private static boolean isInSet(int set, int commit) {
        return commit >= 0 && commit < COMMITS && ((set >> commit) & 1) == 1;
    }

    private static int setOf(int commit) {
        return commit >= 0 && commit < COMMITS ? 1 << commit : 0;
    }

    // Float.floatToIntBits is outside of the language. A taste is below 1, as each ingredient adds at most 6/8 of
    // its amount, and doubling a float keeps its fraction exactly.
    private static int bitsOf(float value) {
        if (!(value > 0.0f)) {
            return 0;
        }
        float scaled = value;
        int exponent = 127;
        for (int i = 0; i < 126 && scaled < 1.0f; i++) {
            scaled = scaled * 2.0f;
            exponent--;
        }
        int fraction = (int) ((scaled - 1.0f) * 8388608.0f);
        return (exponent << 23) | fraction;
    }

    /** All that changes can change, so that undo and snapshot copy one object. */
    private static final class Forest {
        private int commits;
        private int branches;
        private int purpose;
        private final int[] kinds;
        private final int[] firsts;
        private final int[] seconds;
        // A bit for the commit itself and each ancestor of it: 24 commits fit into an int.
        private final int[] families;
        private final int[] depths;
        private final int[] amounts;
        private final int[] tips;
        private final int[] bundled;

        Forest() {
            kinds = new int[COMMITS];
            firsts = new int[COMMITS];
            seconds = new int[COMMITS];
            families = new int[COMMITS];
            depths = new int[COMMITS];
            amounts = new int[COMMITS * INGREDIENTS];
            tips = new int[BRANCHES];
            bundled = new int[PLACES];
            for (int i = 0; i < PLACES; i++) {
                bundled[i] = NONE;
            }
            firsts[0] = NONE;
            seconds[0] = NONE;
            families[0] = 1;
            commits = 1;
            branches = 1;
            purpose = NONE;
        }

        void become(Forest other) {
            System.arraycopy(other.kinds, 0, kinds, 0, COMMITS);
            System.arraycopy(other.firsts, 0, firsts, 0, COMMITS);
            System.arraycopy(other.seconds, 0, seconds, 0, COMMITS);
            System.arraycopy(other.families, 0, families, 0, COMMITS);
            System.arraycopy(other.depths, 0, depths, 0, COMMITS);
            System.arraycopy(other.amounts, 0, amounts, 0, COMMITS * INGREDIENTS);
            System.arraycopy(other.tips, 0, tips, 0, BRANCHES);
            System.arraycopy(other.bundled, 0, bundled, 0, PLACES);
            commits = other.commits;
            branches = other.branches;
            purpose = other.purpose;
        }

        boolean isCommit(int commit) {
            return commit >= 0 && commit < commits && commit < COMMITS;
        }

        boolean isBranch(int branch) {
            return branch >= 0 && branch < branches && branch < BRANCHES;
        }

        boolean isFull() {
            return commits >= COMMITS;
        }

        int commitCount() {
            return commits;
        }

        int branchCount() {
            return branches;
        }

        int tipOf(int branch) {
            return branch >= 0 && branch < BRANCHES ? tips[branch] : NONE;
        }

        int kindOf(int commit) {
            return commit >= 0 && commit < COMMITS ? kinds[commit] : NONE;
        }

        int firstOf(int commit) {
            return commit >= 0 && commit < COMMITS ? firsts[commit] : NONE;
        }

        int secondOf(int commit) {
            return commit >= 0 && commit < COMMITS ? seconds[commit] : NONE;
        }

        int familyOf(int commit) {
            return commit >= 0 && commit < COMMITS ? families[commit] : 0;
        }

        int depthOf(int commit) {
            return commit >= 0 && commit < COMMITS ? depths[commit] : NONE;
        }

        int amountIn(int commit, int ingredient) {
            if (commit < 0 || commit >= COMMITS || ingredient < 0 || ingredient >= INGREDIENTS) {
                return 0;
            }
            return amounts[commit * INGREDIENTS + ingredient];
        }

        int changedIn(int commit) {
            int parent = firstOf(commit);
            if (parent == NONE) {
                return 0;
            }
            int changed = 0;
            for (int i = 0; i < INGREDIENTS; i++) {
                if (amountIn(commit, i) != amountIn(parent, i)) {
                    changed++;
                }
            }
            return changed;
        }

        int addCommit(int branch, int kind, int second, int[] row) {
            if (commits < 0 || commits >= COMMITS || !isBranch(branch) || row.length < INGREDIENTS) {
                return NONE;
            }
            int number = commits;
            int first = tips[branch];
            kinds[number] = kind;
            firsts[number] = first;
            seconds[number] = second;
            families[number] = setOf(number) | familyOf(first) | familyOf(second);
            depths[number] = 1 + Math.max(depthOf(first), depthOf(second));
            for (int i = 0; i < INGREDIENTS; i++) {
                amounts[number * INGREDIENTS + i] = row[i];
            }
            tips[branch] = number;
            commits++;
            return number;
        }

        int addBranch(int tip) {
            if (branches < 0 || branches >= BRANCHES) {
                return NONE;
            }
            int number = branches;
            tips[number] = tip;
            branches++;
            return number;
        }

        void moveTip(int branch, int commit) {
            if (isBranch(branch)) {
                tips[branch] = commit;
            }
        }

        boolean hasInFamily(int commit, int ancestor) {
            return isInSet(familyOf(commit), ancestor);
        }

        int commonGround(int one, int other) {
            int common = familyOf(one) & familyOf(other);
            for (int commit = Math.min(one, other); commit > 0; commit--) {
                if (isInSet(common, commit)) {
                    return commit;
                }
            }
            return 0;
        }

        // Parents have lower numbers, so whoever is reached from both is known once it is the greatest left.
        int meetingPoint(int one, int other) {
            int fromOne = setOf(one);
            int fromOther = setOf(other);
            for (int commit = Math.max(one, other); commit > 0; commit--) {
                boolean isOfOne = isInSet(fromOne, commit);
                boolean isOfOther = isInSet(fromOther, commit);
                if (isOfOne && isOfOther) {
                    return commit;
                }
                int parents = setOf(firstOf(commit)) | setOf(secondOf(commit));
                fromOne |= isOfOne ? parents : 0;
                fromOther |= isOfOther ? parents : 0;
            }
            return 0;
        }

        boolean isBornWell(int commit) {
            int first = firstOf(commit);
            if (first >= commit || secondOf(commit) >= commit) {
                return false;
            }
            return first == NONE || kindOf(commit) != EDIT || changedIn(commit) == 1;
        }

        boolean areBasesSame(int commit) {
            for (int other = 0; other <= commit; other++) {
                int ground = commonGround(commit, other);
                if (ground != meetingPoint(commit, other) || ground != meetingPoint(other, commit)) {
                    return false;
                }
            }
            return true;
        }

        float tasteOf(int commit) {
            float taste = 0.0f;
            int sum = 0;
            for (int i = 0; i < INGREDIENTS; i++) {
                int amount = amountIn(commit, i);
                taste += (float) amount * (float) (i + 1) / 8.0f;
                sum += amount;
            }
            float divisor = (float) (1 + sum);
            return divisor > 0.0f ? taste / divisor : 0.0f;
        }

        int countKind(int kind) {
            int count = 0;
            for (int commit = 0; commit < commits; commit++) {
                if (kindOf(commit) == kind) {
                    count++;
                }
            }
            return count;
        }

        int countLost() {
            int kept = 0;
            for (int branch = 0; branch < branches; branch++) {
                kept |= familyOf(tipOf(branch));
            }
            return commits - Integer.bitCount(kept);
        }

        int sumOfTips() {
            int sum = 0;
            for (int branch = 0; branch < branches; branch++) {
                for (int i = 0; i < INGREDIENTS; i++) {
                    sum += amountIn(tipOf(branch), i);
                }
            }
            return sum;
        }

        int bundleKind() {
            return purpose;
        }

        int bundledAt(int place) {
            return place >= 0 && place < PLACES ? bundled[place] : NONE;
        }

        int bundledCount() {
            int count = 0;
            for (int i = 0; i < PLACES; i++) {
                if (bundled[i] != NONE) {
                    count++;
                }
            }
            return count;
        }

        int placeOf(int commit) {
            for (int i = 0; i < PLACES; i++) {
                if (bundled[i] == commit) {
                    return i;
                }
            }
            return NONE;
        }

        void takeBundle(int what) {
            purpose = what;
            for (int i = 0; i < PLACES; i++) {
                bundled[i] = NONE;
            }
        }

        void fillPlace(int place, int commit) {
            if (place >= 0 && place < PLACES) {
                bundled[place] = commit;
            }
        }
    }

    /** The latest states before a change, as a ring of rows that are used again. */
    private static final class History {
        private final Forest[] states;
        private int next;
        private int count;

        History() {
            states = new Forest[UNDOS];
            for (int i = 0; i < UNDOS; i++) {
                states[i] = new Forest();
            }
            next = 0;
            count = 0;
        }

        int size() {
            return count;
        }

        void forgetAll() {
            count = 0;
        }

        void keep(Forest state) {
            Forest row = rowAt(next);
            if (row == null) {
                return;
            }
            row.become(state);
            next = (next + 1) % UNDOS;
            count = Math.min(count + 1, UNDOS);
        }

        int takeBack(Forest target) {
            int latest = (next + UNDOS - 1) % UNDOS;
            Forest row = rowAt(latest);
            if (row == null || count < 1) {
                return 0;
            }
            target.become(row);
            next = latest;
            count--;
            return count;
        }

        private Forest rowAt(int index) {
            return index >= 0 && index < states.length ? states[index] : null;
        }
    }

    /** Two rows of amounts put together by a third one. */
    private static final class Mix {
        private final int[] row;
        private int conflictCount;
        private int lowest;

        Mix() {
            row = new int[INGREDIENTS];
            conflictCount = 0;
            lowest = NONE;
        }

        int[] amounts() {
            return row;
        }

        int conflictsFound() {
            return conflictCount;
        }

        int lowestConflict() {
            return lowest;
        }

        void change(Forest forest, int commit, int ingredient, int amount) {
            for (int i = 0; i < INGREDIENTS; i++) {
                row[i] = i == ingredient ? amount : forest.amountIn(commit, i);
            }
        }

        void putTogether(Forest forest, int one, int other, int ground, int rule) {
            conflictCount = 0;
            lowest = NONE;
            // Downwards, so that the lowest conflict is the last one that is kept.
            for (int i = INGREDIENTS - 1; i >= 0; i--) {
                int mine = forest.amountIn(one, i);
                int theirs = forest.amountIn(other, i);
                int old = forest.amountIn(ground, i);
                if (mine == old) {
                    row[i] = theirs;
                } else if (theirs == old || mine == theirs) {
                    row[i] = mine;
                } else {
                    row[i] = byRule(mine, theirs, rule);
                    conflictCount++;
                    lowest = i;
                }
            }
        }

        boolean isRowOf(Forest forest, int commit) {
            for (int i = 0; i < INGREDIENTS; i++) {
                if (row[i] != forest.amountIn(commit, i)) {
                    return false;
                }
            }
            return true;
        }

        private static int byRule(int mine, int theirs, int rule) {
            if (rule == 2) {
                return theirs;
            }
            return rule == 3 ? (mine + theirs) / 2 : mine;
        }
    }

    /** Makes changes, or answers why they can't be made; it throws nothing, so that play and read can use it. */
    private static final class Desk {
        private final Forest forest;
        private final Mix mix;
        private int reason;
        private int detail;

        Desk(Forest forest) {
            this.forest = forest;
            mix = new Mix();
            reason = NONE;
            detail = NONE;
        }

        int latestReason() {
            return reason;
        }

        int latestDetail() {
            return detail;
        }

        int tryEdit(int branch, int ingredient, int amount) {
            if (!forest.isBranch(branch) || !isIngredient(ingredient)) {
                return NO_SUCH;
            }
            if (!isAmount(amount)) {
                return BAD_ARGUMENT;
            }
            int tip = forest.tipOf(branch);
            if (forest.amountIn(tip, ingredient) == amount) {
                return refuse(SAME_AMOUNT, amount);
            }
            if (forest.isFull()) {
                return refuse(FULL, COMMITS);
            }
            mix.change(forest, tip, ingredient, amount);
            return forest.addCommit(branch, EDIT, NONE, mix.amounts());
        }

        int tryFork(int branch) {
            if (!forest.isBranch(branch)) {
                return NO_SUCH;
            }
            if (forest.branchCount() >= BRANCHES) {
                return refuse(FULL, BRANCHES);
            }
            return forest.addBranch(forest.tipOf(branch));
        }

        int tryReset(int branch, int commit) {
            if (!forest.isBranch(branch) || !forest.isCommit(commit)) {
                return NO_SUCH;
            }
            int tip = forest.tipOf(branch);
            if (tip == commit) {
                return refuse(SAME_TIP, tip);
            }
            forest.moveTip(branch, commit);
            return tip;
        }

        int tryMerge(int branch, int other, int rule) {
            if (!forest.isBranch(branch) || !forest.isBranch(other)) {
                return NO_SUCH;
            }
            if (!isRule(rule)) {
                return BAD_ARGUMENT;
            }
            int tip = forest.tipOf(branch);
            int merged = forest.tipOf(other);
            if (forest.hasInFamily(tip, merged)) {
                return refuse(HAD_ALREADY, merged);
            }
            if (forest.hasInFamily(merged, tip)) {
                forest.moveTip(branch, merged);
                return merged;
            }
            mix.putTogether(forest, tip, merged, forest.commonGround(tip, merged), rule);
            if (isStopped(rule)) {
                return refuse(CONFLICT, mix.lowestConflict());
            }
            if (forest.isFull()) {
                return refuse(FULL, COMMITS);
            }
            return forest.addCommit(branch, MERGE, merged, mix.amounts());
        }

        int tryPick(int branch, int commit, int rule) {
            if (!forest.isBranch(branch) || !forest.isCommit(commit)) {
                return NO_SUCH;
            }
            if (!isRule(rule)) {
                return BAD_ARGUMENT;
            }
            if (forest.hasInFamily(forest.tipOf(branch), commit)) {
                return refuse(HAD_ALREADY, commit);
            }
            return pickChange(branch, commit, forest.firstOf(commit), rule);
        }

        int tryRevert(int branch, int commit, int rule) {
            if (!forest.isBranch(branch) || !forest.isCommit(commit)) {
                return NO_SUCH;
            }
            if (!isRule(rule)) {
                return BAD_ARGUMENT;
            }
            int parent = forest.firstOf(commit);
            if (parent == NONE) {
                return refuse(NO_PARENT, 0);
            }
            if (!forest.hasInFamily(forest.tipOf(branch), commit)) {
                return refuse(NOT_HAD, commit);
            }
            return pickChange(branch, parent, commit, rule);
        }

        int tryBundle(int what) {
            if (what < EDIT || what > PICK) {
                return BAD_ARGUMENT;
            }
            int count = forest.bundledCount();
            forest.takeBundle(what);
            return count;
        }

        int tryPut(int place, int commit) {
            if (!isPlace(place) || !forest.isCommit(commit)) {
                return NO_SUCH;
            }
            int purpose = forest.bundleKind();
            if (purpose == NONE || purpose != forest.kindOf(commit)) {
                return refuse(NO_FIT, purpose);
            }
            int held = forest.placeOf(commit);
            if (held != NONE) {
                return refuse(IN_BUNDLE, held);
            }
            forest.fillPlace(place, commit);
            return forest.bundledCount();
        }

        int tryPlay(int branch, int rule) {
            if (!forest.isBranch(branch)) {
                return NO_SUCH;
            }
            if (!isRule(rule)) {
                return BAD_ARGUMENT;
            }
            if (forest.bundledCount() == 0) {
                return refuse(EMPTY_BUNDLE, forest.bundleKind());
            }
            int picked = 0;
            for (int place = 0; place < PLACES; place++) {
                int commit = forest.bundledAt(place);
                if (commit != NONE) {
                    int result = tryPick(branch, commit, rule);
                    if (result < 0) {
                        return result;
                    }
                    picked++;
                }
            }
            return picked;
        }

        int conflictsBetween(int one, int other) {
            mix.putTogether(forest, one, other, forest.commonGround(one, other), 0);
            return mix.conflictsFound();
        }

        // Picking goes from the ground to the commit, and reverting the other way.
        private int pickChange(int branch, int other, int ground, int rule) {
            int tip = forest.tipOf(branch);
            mix.putTogether(forest, tip, other, ground, rule);
            if (isStopped(rule)) {
                return refuse(CONFLICT, mix.lowestConflict());
            }
            if (mix.isRowOf(forest, tip)) {
                return refuse(NOTHING_OTHERWISE, tip);
            }
            if (forest.isFull()) {
                return refuse(FULL, COMMITS);
            }
            return forest.addCommit(branch, PICK, NONE, mix.amounts());
        }

        private boolean isStopped(int rule) {
            return rule == 0 && mix.conflictsFound() > 0;
        }

        private int refuse(int why, int what) {
            reason = why;
            detail = what;
            return REFUSED;
        }
    }

    /** The line of a branch, from its tip to the commit 0. */
    private static final class Walk {
        private final int[] commits;
        private int length;
        private int looks;

        Walk() {
            commits = new int[COMMITS];
            length = 0;
            looks = 0;
        }

        void follow(Forest forest, int tip) {
            length = 0;
            int commit = tip;
            for (int i = 0; i < COMMITS && commit != NONE; i++) {
                commits[i] = commit;
                length = i + 1;
                commit = forest.firstOf(commit);
            }
        }

        int at(int place) {
            return place >= 0 && place < length && place < COMMITS ? commits[place] : NONE;
        }

        int looksTaken() {
            return looks;
        }

        int searchByHalves(Forest forest, int ingredient, int limit) {
            int bad = 0;
            int good = length - 1;
            looks = 0;
            // The distance shrinks with each look, so the loop ends long before its bound.
            for (int i = 0; i < COMMITS && good - bad > 1; i++) {
                int middle = (bad + good) / 2;
                looks++;
                if (forest.amountIn(at(middle), ingredient) > limit) {
                    bad = middle;
                } else {
                    good = middle;
                }
            }
            return at(bad);
        }

        int farthestBad(Forest forest, int ingredient, int limit) {
            for (int place = length - 1; place >= 0; place--) {
                if (forest.amountIn(at(place), ingredient) > limit) {
                    return at(place);
                }
            }
            return NONE;
        }

        int latestChange(Forest forest, int ingredient) {
            for (int place = 0; place < length - 1; place++) {
                if (forest.amountIn(at(place), ingredient) != forest.amountIn(at(place + 1), ingredient)) {
                    return at(place);
                }
            }
            return 0;
        }

        int farthestBest(Forest forest) {
            int best = 0;
            float greatest = 0.0f;
            // From the far end, so that only a greater taste takes the place of an earlier one.
            for (int place = length - 1; place >= 0; place--) {
                float taste = forest.tasteOf(at(place));
                if (taste > greatest) {
                    greatest = taste;
                    best = at(place);
                }
            }
            return best;
        }
    }

    /** The characters that are not read yet. */
    private static final class Input {
        private final char[] signs;
        private int length;

        Input() {
            signs = new char[INPUT_SIGNS];
            length = 0;
        }

        int size() {
            return length;
        }

        boolean isFull() {
            return length >= INPUT_SIGNS;
        }

        int add(char sign) {
            if (length >= 0 && length < INPUT_SIGNS) {
                signs[length] = sign;
                length++;
            }
            return length;
        }

        void clear() {
            length = 0;
        }

        // As an int, so that the end differs from each character.
        int signAt(int index) {
            return index >= 0 && index < length && index < INPUT_SIGNS ? signs[index] : NONE;
        }
    }

    /** The orders of a text: rows of a letter and up to three numbers. */
    private static final class Orders {
        private final int[] rows;
        private int count;
        private int position;
        private int column;

        Orders() {
            rows = new int[ORDERS * ORDER_WIDTH];
            count = 0;
            position = 0;
            column = 0;
        }

        int parse(Input input) {
            count = 0;
            position = 0;
            for (int i = 0; i < ORDERS; i++) {
                if (!parseOrder(input)) {
                    return position;
                }
                int sign = input.signAt(position);
                if (sign == NONE) {
                    return NONE;
                }
                if (sign != ';') {
                    return position;
                }
                position++;
            }
            return position;
        }

        int carryOut(Desk desk) {
            for (int i = 0; i < count; i++) {
                int result = carryOutOrder(desk, i);
                if (result < 0) {
                    // What is out of range in a text is an error of the text.
                    return result == REFUSED ? REFUSED : BAD_ARGUMENT;
                }
            }
            return count;
        }

        private boolean parseOrder(Input input) {
            int letter = input.signAt(position);
            String shape = shapeOf(letter);
            if (shape.isEmpty()) {
                return false;
            }
            position++;
            column = 0;
            store(letter);
            for (int i = 0; i < shape.length(); i++) {
                if (!parseSign(input, shape.charAt(i))) {
                    return false;
                }
            }
            count++;
            return true;
        }

        // In a shape, 1 stands for a digit, 2 for one or two digits, and all else for itself.
        private static String shapeOf(int letter) {
            switch (letter) {
                case 'e': return "1.1=2";
                case 'f': return "1";
                case 'm': return "1<1!1";
                case 'p': return "1<2!1";
                case 'v': return "1<2!1";
                case 'r': return "1=2";
                default: return "";
            }
        }

        private boolean parseSign(Input input, char expected) {
            int sign = input.signAt(position);
            if (expected != '1' && expected != '2') {
                if (sign != expected) {
                    return false;
                }
                position++;
                return true;
            }
            if (!isDigit(sign)) {
                return false;
            }
            position++;
            int number = sign - '0';
            int next = input.signAt(position);
            if (expected == '2' && isDigit(next)) {
                position++;
                number = number * 10 + next - '0';
            }
            store(number);
            return true;
        }

        private static boolean isDigit(int sign) {
            return sign >= '0' && sign <= '9';
        }

        private void store(int number) {
            int index = count * ORDER_WIDTH + column;
            if (index >= 0 && index < rows.length) {
                rows[index] = number;
            }
            column++;
        }

        private int numberAt(int order, int place) {
            int index = order * ORDER_WIDTH + place;
            return index >= 0 && index < rows.length ? rows[index] : NONE;
        }

        private int carryOutOrder(Desk desk, int order) {
            int one = numberAt(order, 1);
            int two = numberAt(order, 2);
            int three = numberAt(order, 3);
            switch (numberAt(order, 0)) {
                case 'e': return desk.tryEdit(one, two, three);
                case 'f': return desk.tryFork(one);
                case 'm': return desk.tryMerge(one, two, three);
                case 'p': return desk.tryPick(one, two, three);
                case 'v': return desk.tryRevert(one, two, three);
                case 'r': return desk.tryReset(one, two);
                default: return BAD_ARGUMENT;
            }
        }
    }

    /** The line of a commit, as it was when it was written. */
    private static final class Line {
        private final char[] signs;
        private int length;

        Line() {
            signs = new char[LINE_SIGNS];
            length = 0;
        }

        boolean has(int index) {
            return index >= 0 && index < length && index < LINE_SIGNS;
        }

        char signAt(int index) {
            return has(index) ? signs[index] : ' ';
        }

        int write(Forest forest, int commit) {
            length = 0;
            addNumber(commit);
            addSign(' ');
            addSign(letterOf(forest.kindOf(commit)));
            addSign(':');
            for (int i = 0; i < INGREDIENTS; i++) {
                addSign(' ');
                addNumber(forest.amountIn(commit, i));
            }
            return length;
        }

        private static char letterOf(int kind) {
            if (kind == MERGE) {
                return 'm';
            }
            return kind == PICK ? 'p' : 'e';
        }

        // Commits and amounts have at most two digits.
        private void addNumber(int number) {
            if (number >= 10) {
                addSign((char) ('0' + number / 10 % 10));
            }
            addSign((char) ('0' + number % 10));
        }

        private void addSign(char sign) {
            if (length >= 0 && length < LINE_SIGNS) {
                signs[length] = sign;
                length++;
            }
        }
    }
}
