/** The boundaries of promises 1 to 7: a new object, commits and branches. */
public final class CommitEdgeTests {
    private static final Edges EDGES = new Edges();
    private static final String FULL = Edges.fill(1);
    private static final String FIVE = "fork(0) -> 1; fork(0) -> 2; fork(0) -> 3; fork(0) -> 4;";
    // The branch 0 goes 0 1 4 and the branch 1 goes 0 1 2 3.
    private static final String SHORT_AND_LONG =
            "edit(0, 0, 10) -> 1; fork(0) -> 1; edit(1, 1, 20) -> 2; edit(1, 2, 30) -> 3; edit(0, 3, 40) -> 4;";

    public static void main(String[] args) {
        aNewObject();
        objects();
        editBranches();
        editAmounts();
        editRefused();
        fork();
        reset();
        tip();
        amount();
        commitOf();
        commitOfParents();
        commitOfAncestors();
        EDGES.finish("edges of commits and branches", 1, 7);
    }

    private static void aNewObject() {
        EDGES.at(1, "it has the commit 0 and no other", "account(0) -> 1; amount(0, 0) -> 0; amount(1, 0) -> index; reset(0, 1) -> index");
        EDGES.at(1, "the commit 0 is an edit", "commitOf(0, 0) -> 0; account(2) -> 1; account(3) -> 0; account(4) -> 0; editShare() -> 1.0");
        EDGES.at(1, "the commit 0 has no parent", "commitOf(0, 1) -> -1; commitOf(0, 2) -> -1; commitOf(0, 3) -> 0; commitOf(0, 4) -> 0; commitOf(0, 5) -> 0");
        EDGES.at(1, "all 6 amounts of the commit 0 are 0", "amount(0, 0) -> 0; amount(0, 1) -> 0; amount(0, 2) -> 0; amount(0, 3) -> 0",
                "amount(0, 4) -> 0; amount(0, 5) -> 0; amount(0, 6) -> index; write(0) -> \"0 e: 0 0 0 0 0 0\"");
        EDGES.at(1, "it has the branch 0 on the commit 0 and no other", "account(1) -> 1; tip(0) -> 0; tip(1) -> index; account(5) -> 0");
        EDGES.at(1, "it has no bundle", "account(6) -> -1; account(7) -> 0; inBundle(0) -> missing; inBundle(3) -> missing");
        EDGES.at(1, "without a bundle nothing is put", "put(0, 0) -> refused 9 -1");
        EDGES.at(1, "without a bundle nothing is played", "play(0, 0) -> refused 11 -1");
        EDGES.at(1, "no change can be undone", "account(10) -> 0; undo() -> state");
        EDGES.at(1, "there is no snapshot", "restore() -> state");
        EDGES.at(1, "nothing was refused", "refusal(false) -> missing; refusal(true) -> missing");
        EDGES.at(1, "the line is empty", "character(0) -> index; character(-1) -> index; character(1) -> index");
        EDGES.at(1, "the input is empty", "account(9) -> 0; append(\"f\") -> 1");
        EDGES.at(1, "read has not been called", "errorPosition() -> -1");
        EDGES.at(1, "all tips have the taste 0", "taste(0) -> 0.0; tasteBits(0) -> 0; tastiest(0) -> 0; meanTaste() -> 0.0; isWell() -> true");
        EDGES.at(1, "the line of the branch is the commit 0", "onLine(0, 0) -> 0; onLine(0, 1) -> missing; blame(0, 0) -> 0; firstBad(0, 0, 0) -> missing");
    }

    private static void objects() {
        RecipeForests one = new RecipeForests();
        RecipeForests other = new RecipeForests();
        one.edit(0, 0, 5);
        one.fork(0);
        one.bundle(0);
        one.save();
        one.line(1);
        one.append('x');
        EDGES.due(1, "a new object has nothing of an older one", new RecipeForests().account(0) == 1 && other.account(0) == 1 && other.account(1) == 1
                && other.account(6) == -1 && other.account(9) == 0 && other.account(10) == 0);
        other.edit(0, 1, 7);
        EDGES.due(1, "an older object has nothing of a new one", one.amount(1, 0) == 5 && one.amount(1, 1) == 0 && other.amount(1, 0) == 0 && one.account(10) == 3);
    }

    private static void editBranches() {
        EDGES.at(2, "there is no branch -1", "edit(-1, 0, 1) -> index; edit(0, 0, 1) -> 1");
        EDGES.at(2, "there is no branch 1 at first", "edit(1, 0, 1) -> index; fork(0) -> 1; edit(1, 0, 1) -> 1; edit(2, 0, 1) -> index");
        EDGES.at(2, "the last of 5 branches is 4", FIVE, "edit(5, 0, 1) -> index; edit(4, 0, 1) -> 1; tip(4) -> 1; tip(3) -> 0; tip(0) -> 0");
        EDGES.at(2, "branches far out are none", "edit(2147483647, 0, 1) -> index; edit(-2147483648, 0, 1) -> index; edit(256, 0, 1) -> index");
        EDGES.at(2, "there is no ingredient -1", "edit(0, -1, 1) -> index; edit(0, 0, 1) -> 1");
        EDGES.at(2, "the last ingredient is 5", "edit(0, 6, 1) -> index; edit(0, 5, 1) -> 1; amount(1, 5) -> 1; amount(1, 4) -> 0");
        EDGES.at(2, "ingredients far out are none", "edit(0, 2147483647, 1) -> index; edit(0, -2147483648, 1) -> index");
        EDGES.at(2, "a missing branch comes before a bad amount", "edit(1, 0, 100) -> index; edit(-1, 0, -1) -> index");
        EDGES.at(2, "a missing ingredient comes before a bad amount", "edit(0, 6, 100) -> index; edit(0, -1, -1) -> index");
        EDGES.at(2, "a missing branch comes before a refusal", "edit(1, 0, 0) -> index; refusal(false) -> missing");
        EDGES.at(2, "a missing ingredient comes before a refusal", "edit(0, 6, 0) -> index; refusal(false) -> missing");
    }

    private static void editAmounts() {
        EDGES.at(2, "an amount of -1 is out of range", "edit(0, 0, -1) -> argument");
        EDGES.at(2, "an amount of 0 is the least", "edit(0, 0, 1) -> 1; edit(0, 0, -1) -> argument; edit(0, 0, 0) -> 2; amount(2, 0) -> 0");
        EDGES.at(2, "an amount of 99 is the greatest", "edit(0, 0, 99) -> 1; amount(1, 0) -> 99");
        EDGES.at(2, "an amount of 100 is out of range", "edit(0, 0, 100) -> argument");
        EDGES.at(2, "amounts far out are out of range", "edit(0, 0, 2147483647) -> argument; edit(0, 0, -2147483648) -> argument");
        EDGES.at(2, "a bad amount comes before a refusal", FULL, "edit(0, 0, 100) -> argument; edit(0, 0, -1) -> argument; refusal(false) -> missing");
        EDGES.at(2, "the other amounts stay", "edit(0, 0, 1) -> 1; edit(0, 5, 6) -> 2; edit(0, 2, 3) -> 3; write(3) -> \"3 e: 1 0 3 0 0 6\"; write(1) -> \"1 e: 1 0 0 0 0 0\"");
        EDGES.at(2, "it is an edit on the tip before, and the tip then", "edit(0, 0, 1) -> 1; edit(0, 0, 2) -> 2; commitOf(2, 0) -> 0; commitOf(2, 1) -> 1; commitOf(2, 2) -> -1; tip(0) -> 2");
        EDGES.at(2, "the other branches stay", "fork(0) -> 1; edit(0, 0, 1) -> 1; tip(1) -> 0; edit(1, 0, 1) -> 2; tip(0) -> 1; commitOf(2, 1) -> 0");
    }

    private static void editRefused() {
        EDGES.at(2, "2: an amount that is 0 already", "edit(0, 0, 0) -> refused 2 0");
        EDGES.at(2, "2: an amount that is 99 already", "edit(0, 3, 99) -> 1; edit(0, 3, 99) -> refused 2 99; edit(0, 3, 98) -> 2");
        EDGES.at(2, "2: the amount of the tip counts, not an older one", "edit(0, 0, 5) -> 1; edit(0, 0, 6) -> 2; edit(0, 0, 5) -> 3; edit(0, 0, 5) -> refused 2 5");
        EDGES.at(2, "2: the amount of the branch counts, not that of another one", "fork(0) -> 1; edit(0, 0, 5) -> 1; edit(1, 0, 5) -> 2; edit(1, 0, 5) -> refused 2 5");
        EDGES.at(2, "2: the amount of the ingredient counts, not that of another one", "edit(0, 0, 5) -> 1; edit(0, 1, 5) -> 2; edit(0, 1, 0) -> 3; edit(0, 2, 0) -> refused 2 0");
        EDGES.at(2, "1: the commit 23 is the last of 24", Edges.fill(1, 22), "account(0) -> 23; edit(0, 0, 1) -> 23; account(0) -> 24; edit(0, 0, 2) -> refused 1 24");
        EDGES.at(2, "1: on each branch", "fork(0) -> 1;", FULL, "edit(1, 0, 1) -> refused 1 24; edit(0, 0, 1) -> refused 1 24; tip(1) -> 0");
        EDGES.at(2, "2 comes before 1", FULL, "edit(0, 5, 23) -> refused 2 23; edit(0, 5, 22) -> refused 1 24");
        EDGES.at(2, "1: a commit that is undone leaves room", FULL, "edit(0, 0, 1) -> refused 1 24; undo() -> 7; edit(0, 0, 1) -> 23; edit(0, 0, 2) -> refused 1 24");
        EDGES.at(2, "1: a commit that is in no line any more leaves none", FULL, "reset(0, 0) -> 23; account(5) -> 23; edit(0, 0, 1) -> refused 1 24");
    }

    private static void fork() {
        EDGES.at(3, "there is no branch -1", "fork(-1) -> index; fork(-2147483648) -> index; fork(0) -> 1");
        EDGES.at(3, "there is no branch 1 at first", "fork(1) -> index; fork(2147483647) -> index; fork(0) -> 1; fork(1) -> 2; fork(3) -> index");
        EDGES.at(3, "1: the branch 4 is the last of 5", "fork(0) -> 1; fork(0) -> 2; fork(0) -> 3; account(1) -> 4; fork(0) -> 4; account(1) -> 5; fork(0) -> refused 1 5");
        EDGES.at(3, "1: from each branch", FIVE, "fork(4) -> refused 1 5; fork(2) -> refused 1 5; tip(5) -> index");
        EDGES.at(3, "a missing branch comes before a refusal", FIVE, "fork(5) -> index; fork(-1) -> index; refusal(false) -> missing");
        EDGES.at(3, "1: a branch that is undone leaves room", FIVE, "fork(0) -> refused 1 5; undo() -> 3; tip(4) -> index; fork(3) -> 4");
        EDGES.at(3, "24 commits are no reason", FULL, "fork(0) -> 1; tip(1) -> 23; account(0) -> 24");
        EDGES.at(3, "5 branches and 24 commits: the detail is 5", FIVE, FULL, "fork(0) -> refused 1 5");
        EDGES.at(3, "it is on the tip of its branch", "edit(0, 0, 1) -> 1; fork(0) -> 1; edit(1, 0, 2) -> 2; fork(1) -> 2; fork(0) -> 3; tip(2) -> 2; tip(3) -> 1; tip(0) -> 1");
    }

    private static void reset() {
        EDGES.at(4, "there is no branch -1", "edit(0, 0, 1) -> 1; reset(-1, 0) -> index; reset(-2147483648, 0) -> index");
        EDGES.at(4, "there is no branch 1 at first", "edit(0, 0, 1) -> 1; reset(1, 0) -> index; fork(0) -> 1; reset(1, 0) -> 1; reset(2, 0) -> index");
        EDGES.at(4, "there is no commit -1", "edit(0, 0, 1) -> 1; reset(0, -1) -> index; reset(0, -2147483648) -> index; reset(0, 0) -> 1");
        EDGES.at(4, "the last commit can be the tip, and none beyond", "edit(0, 0, 1) -> 1; reset(0, 0) -> 1; reset(0, 2) -> index; reset(0, 1) -> 0; tip(0) -> 1");
        EDGES.at(4, "the last of 24 commits is 23", FULL, "reset(0, 24) -> index; reset(0, 2147483647) -> index; reset(0, 22) -> 23; reset(0, 23) -> 22");
        EDGES.at(4, "3: the tip is the commit 0", "reset(0, 0) -> refused 3 0");
        EDGES.at(4, "3: the tip is the commit", "edit(0, 0, 1) -> 1; reset(0, 1) -> refused 3 1; reset(0, 0) -> 1; reset(0, 0) -> refused 3 0");
        EDGES.at(4, "3: with 24 commits", FULL, "reset(0, 23) -> refused 3 23");
        EDGES.at(4, "a missing branch or commit comes before a refusal", "reset(1, 0) -> index; reset(0, 1) -> index; refusal(false) -> missing");
        EDGES.at(4, "the tip of another branch is no reason", "fork(0) -> 1; edit(0, 0, 1) -> 1; reset(1, 1) -> 0; tip(1) -> 1; tip(0) -> 1");
        EDGES.at(4, "a commit in no line any more can be the tip", "edit(0, 0, 1) -> 1; edit(0, 0, 2) -> 2; reset(0, 0) -> 2; account(5) -> 2; reset(0, 2) -> 0; account(5) -> 0; amount(2, 0) -> 2");
        EDGES.at(4, "24 commits are no reason", FULL, "reset(0, 5) -> 23; tip(0) -> 5; account(0) -> 24");
    }

    private static void tip() {
        EDGES.at(5, "there is no branch -1", "tip(-1) -> index; tip(-2147483648) -> index; tip(0) -> 0");
        EDGES.at(5, "there is no branch beyond the last", "tip(1) -> index; fork(0) -> 1; tip(1) -> 0; tip(2) -> index; tip(2147483647) -> index");
        EDGES.at(5, "the last of 5 branches is 4", FIVE, "edit(4, 0, 1) -> 1; tip(4) -> 1; tip(5) -> index");
        EDGES.at(5, "the commit 23 is the greatest tip", FULL, "tip(0) -> 23");
    }

    private static void amount() {
        EDGES.at(6, "there is no commit -1", "amount(-1, 0) -> index; amount(-2147483648, 0) -> index; amount(0, 0) -> 0");
        EDGES.at(6, "there is no commit beyond the last", "amount(1, 0) -> index; edit(0, 0, 5) -> 1; amount(1, 0) -> 5; amount(2, 0) -> index; amount(2147483647, 0) -> index");
        EDGES.at(6, "the last of 24 commits is 23", FULL, "amount(23, 5) -> 23; amount(24, 5) -> index");
        EDGES.at(6, "there is no ingredient -1", "amount(0, -1) -> index; amount(0, -2147483648) -> index");
        EDGES.at(6, "the last ingredient is 5", "edit(0, 5, 99) -> 1; amount(1, 5) -> 99; amount(1, 6) -> index; amount(0, 6) -> index; amount(0, 2147483647) -> index");
        EDGES.at(6, "a commit that was undone is none", "edit(0, 0, 5) -> 1; undo() -> 0; amount(1, 0) -> index");
    }

    private static void commitOf() {
        EDGES.at(7, "there is no commit -1", "commitOf(-1, 0) -> index; commitOf(-2147483648, 0) -> index");
        EDGES.at(7, "there is no commit beyond the last", "commitOf(1, 0) -> index; edit(0, 0, 5) -> 1; commitOf(1, 0) -> 0; commitOf(2, 0) -> index; commitOf(2147483647, 0) -> index");
        EDGES.at(7, "the last of 24 commits is 23", FULL, "commitOf(23, 1) -> 22; commitOf(24, 1) -> index");
        EDGES.at(7, "what is not -1", "commitOf(0, -1) -> argument; commitOf(0, -2147483648) -> argument; commitOf(0, 0) -> 0");
        EDGES.at(7, "what is at most 5", "edit(0, 0, 5) -> 1; commitOf(1, 5) -> 1; commitOf(1, 6) -> argument; commitOf(1, 2147483647) -> argument");
        EDGES.at(7, "a missing commit comes before a bad what", "commitOf(1, 6) -> index; commitOf(-1, -1) -> index");
    }

    private static void commitOfParents() {
        EDGES.at(7, "0: an edit is 0", "edit(0, 0, 5) -> 1; commitOf(1, 0) -> 0");
        EDGES.at(7, "0: a merge is 1", SHORT_AND_LONG, "merge(0, 1, 0) -> 5; commitOf(5, 0) -> 1");
        EDGES.at(7, "0: a pick is 2", SHORT_AND_LONG, "pick(0, 3, 0) -> 5; commitOf(5, 0) -> 2");
        EDGES.at(7, "0: a revert is a pick", SHORT_AND_LONG, "revert(0, 1, 0) -> 5; commitOf(5, 0) -> 2");
        EDGES.at(7, "1: the first parent is the tip before", SHORT_AND_LONG, "commitOf(4, 1) -> 1; commitOf(2, 1) -> 1; commitOf(1, 1) -> 0; commitOf(0, 1) -> -1");
        EDGES.at(7, "2: an edit and a pick have none", SHORT_AND_LONG, "pick(0, 3, 0) -> 5; revert(0, 1, 0) -> 6; commitOf(4, 2) -> -1; commitOf(5, 2) -> -1; commitOf(6, 2) -> -1; commitOf(6, 1) -> 5");
        EDGES.at(7, "2: the tip that is merged", SHORT_AND_LONG, "merge(0, 1, 0) -> 5; commitOf(5, 1) -> 4; commitOf(5, 2) -> 3");
        EDGES.at(7, "2: the tip that is merged, the other way", SHORT_AND_LONG, "merge(1, 0, 0) -> 5; commitOf(5, 1) -> 3; commitOf(5, 2) -> 4");
        EDGES.at(7, "3: the commit 0 has 0", "commitOf(0, 3) -> 0");
        EDGES.at(7, "3: an edit has 1", "edit(0, 0, 99) -> 1; edit(0, 0, 0) -> 2; commitOf(1, 3) -> 1; commitOf(2, 3) -> 1");
        EDGES.at(7, "3: a merge with the amounts of the tip has 0", "fork(0) -> 1; edit(0, 0, 9) -> 1; edit(1, 0, 9) -> 2; merge(0, 1, 0) -> 3; commitOf(3, 3) -> 0");
        EDGES.at(7, "3: all 6 ingredients can differ", "fork(0) -> 1; edit(1, 0, 1) -> 1; edit(1, 1, 2) -> 2; edit(1, 2, 3) -> 3; edit(1, 3, 4) -> 4; edit(1, 4, 5) -> 5; edit(1, 5, 6) -> 6",
                "edit(0, 0, 50) -> 7; merge(0, 1, 2) -> 8; write(8) -> \"8 m: 1 2 3 4 5 6\"; commitOf(8, 3) -> 6");
        EDGES.at(7, "3: it is the first parent that counts", SHORT_AND_LONG, "merge(0, 1, 0) -> 5; commitOf(5, 3) -> 2; undo() -> 5; merge(1, 0, 0) -> 5; commitOf(5, 3) -> 1");
    }

    private static void commitOfAncestors() {
        EDGES.at(7, "4: the commit 0 has none", "commitOf(0, 4) -> 0; edit(0, 0, 1) -> 1; commitOf(1, 4) -> 1; commitOf(0, 4) -> 0");
        EDGES.at(7, "4: the commit 23 of one line has 23", FULL, "commitOf(23, 4) -> 23; commitOf(22, 4) -> 22");
        EDGES.at(7, "4: those of both parents, each once", SHORT_AND_LONG, "merge(0, 1, 0) -> 5; commitOf(5, 4) -> 5; commitOf(4, 4) -> 2; commitOf(3, 4) -> 3");
        EDGES.at(7, "4: a commit that is picked is no ancestor", SHORT_AND_LONG, "pick(0, 3, 0) -> 5; commitOf(5, 4) -> 3");
        EDGES.at(7, "5: the commit 0 is 0 away", "commitOf(0, 5) -> 0; edit(0, 0, 1) -> 1; commitOf(1, 5) -> 1");
        EDGES.at(7, "5: the commit 23 of one line is 23 away", FULL, "commitOf(23, 5) -> 23");
        EDGES.at(7, "5: the longer way is by the second parent", SHORT_AND_LONG, "merge(0, 1, 0) -> 5; commitOf(5, 5) -> 4");
        EDGES.at(7, "5: the longer way is by the first parent", SHORT_AND_LONG, "merge(1, 0, 0) -> 5; commitOf(5, 5) -> 4; commitOf(4, 5) -> 2; commitOf(3, 5) -> 3");
    }
}
