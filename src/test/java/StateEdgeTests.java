/** The boundaries of promises 33 to 39: accounts, shares, undo and the snapshot. */
public final class StateEdgeTests {
    private static final Edges EDGES = new Edges();
    private static final String FULL = Edges.fill(1);
    private static final String FIVE = "fork(0) -> 1; fork(0) -> 2; fork(0) -> 3; fork(0) -> 4;";
    private static final String SPLIT = "edit(0, 0, 10) -> 1; fork(0) -> 1; edit(0, 0, 20) -> 2; edit(1, 0, 31) -> 3;";
    private static final String ALL_99 =
            "edit(0, 0, 99) -> 1; edit(0, 1, 99) -> 2; edit(0, 2, 99) -> 3; edit(0, 3, 99) -> 4; edit(0, 4, 99) -> 5; edit(0, 5, 99) -> 6;";
    private static final String EIGHT_UNDOS = "undo() -> 7; undo() -> 6; undo() -> 5; undo() -> 4; undo() -> 3; undo() -> 2; undo() -> 1; undo() -> 0;";
    // One of each of the ten kinds of change, where each call needs those before it.
    private static final String TEN =
            "edit(0, 0, 1) -> 1; fork(0) -> 1; edit(1, 1, 2) -> 2; edit(0, 2, 3) -> 3; merge(0, 1, 0) -> 4; revert(0, 2, 0) -> 5; reset(1, 0) -> 2; pick(1, 3, 0) -> 6;";

    public static void main(String[] args) {
        account();
        accountCommits();
        accountState();
        isWell();
        meanTaste();
        editShare();
        undoNumbers();
        undoKinds();
        undoNot();
        save();
        restore();
        restoreWhat();
        restoreForgets();
        calls();
        EDGES.finish("edges of accounts, undo and the snapshot", 33, 39);
    }

    private static void account() {
        EDGES.at(33, "what is not -1", "account(-1) -> argument; account(-2147483648) -> argument; account(0) -> 1");
        EDGES.at(33, "what is at most 10", "account(10) -> 0; account(11) -> argument; account(2147483647) -> argument");
        EDGES.at(33, "all of a new object", "account(0) -> 1; account(1) -> 1; account(2) -> 1; account(3) -> 0; account(4) -> 0; account(5) -> 0; account(6) -> -1; account(7) -> 0; account(8) -> 0; account(9) -> 0; account(10) -> 0");
    }

    private static void accountCommits() {
        EDGES.at(33, "0: from 1 to 24, with the commit 0", "account(0) -> 1;", Edges.fill(1, 22), "account(0) -> 23; edit(0, 0, 1) -> 23; account(0) -> 24; edit(0, 0, 2) -> refused 1 24; account(0) -> 24");
        EDGES.at(33, "0: commits in no line any more count", "edit(0, 0, 1) -> 1; reset(0, 0) -> 1; account(0) -> 2; undo() -> 1; undo() -> 0; account(0) -> 1");
        EDGES.at(33, "1: from 1 to 5", "account(1) -> 1;", FIVE, "account(1) -> 5; fork(0) -> refused 1 5; account(1) -> 5");
        EDGES.at(33, "2, 3 and 4: the commit 0 is an edit", "account(2) -> 1; account(3) -> 0; account(4) -> 0");
        EDGES.at(33, "2: 24 edits", FULL, "account(2) -> 24; account(3) -> 0; account(4) -> 0");
        EDGES.at(33, "3: merges, but not those that make no commit", SPLIT, "merge(0, 1, 1) -> 4; account(3) -> 1; merge(1, 0, 0) -> 4; account(3) -> 1; account(2) -> 4; account(4) -> 0");
        EDGES.at(33, "4: picks and reverts", SPLIT, "revert(0, 2, 0) -> 4; account(4) -> 1; pick(0, 3, 2) -> 5; account(4) -> 2; account(2) -> 4; account(3) -> 0");
        EDGES.at(33, "4: reverts of reverts", "edit(0, 0, 1) -> 1; revert(0, 1, 0) -> 2; revert(0, 2, 0) -> 3; account(2) -> 2; account(4) -> 2; account(0) -> 4");
        EDGES.at(33, "5: none in one line", FULL, "account(5) -> 0");
        EDGES.at(33, "5: 23 behind the commit 0", FULL, "reset(0, 0) -> 23; account(5) -> 23");
        EDGES.at(33, "5: those beyond the tip alone", FULL, "reset(0, 22) -> 23; account(5) -> 1; reset(0, 23) -> 22; account(5) -> 0");
        EDGES.at(33, "5: another branch keeps them", FULL, "fork(0) -> 1; reset(0, 0) -> 23; account(5) -> 0; reset(1, 3) -> 23; account(5) -> 20");
        EDGES.at(33, "5: ancestors by a second parent are no such", SPLIT, "merge(0, 1, 1) -> 4; reset(1, 0) -> 3; account(5) -> 0; reset(0, 2) -> 4; account(5) -> 2");
        EDGES.at(33, "5: a commit that is picked is no ancestor", SPLIT, "pick(0, 3, 2) -> 4; reset(1, 0) -> 3; account(5) -> 1");
    }

    private static void accountState() {
        EDGES.at(33, "6: -1 without one, and what it is for", "account(6) -> -1; bundle(0) -> 0; account(6) -> 0; bundle(1) -> 0; account(6) -> 1; bundle(2) -> 0; account(6) -> 2; undo() -> 2; undo() -> 1; undo() -> 0; account(6) -> -1");
        EDGES.at(33, "7: from 0 to 4", "edit(0, 0, 1) -> 1; edit(0, 0, 2) -> 2; edit(0, 0, 3) -> 3; account(7) -> 0; bundle(0) -> 0; account(7) -> 0; put(0, 0) -> 1; put(1, 1) -> 2; put(2, 2) -> 3; account(7) -> 3; put(3, 3) -> 4; account(7) -> 4; bundle(0) -> 4; account(7) -> 0");
        EDGES.at(33, "8: 0 at least", "account(8) -> 0;", FIVE, "account(8) -> 0");
        EDGES.at(33, "8: 594 for one tip at most", ALL_99, "account(8) -> 594");
        EDGES.at(33, "8: the same tip counts for each branch", ALL_99, FIVE, "account(8) -> 2970; reset(4, 5) -> 6; account(8) -> 2871; reset(0, 0) -> 6; account(8) -> 2277");
        EDGES.at(33, "9: from 0 to 60", "account(9) -> 0; append(\"f\") -> 1; account(9) -> 1; append(\"" + "x".repeat(59) + "\") -> 60; account(9) -> 60; append(\"y\") -> state; account(9) -> 60; read() -> argument; account(9) -> 0");
        EDGES.at(33, "10: from 0 to 8", "account(10) -> 0; edit(0, 0, 1) -> 1; account(10) -> 1;", Edges.fill(2, 8), "account(10) -> 8; edit(0, 5, 0) -> 9; account(10) -> 8; undo() -> 7; account(10) -> 7");
        EDGES.at(33, "10: 0 after restore", "save() -> 1;", Edges.fill(1, 9), "account(10) -> 8; restore() -> 1; account(10) -> 0; edit(0, 0, 1) -> 1; account(10) -> 1");
    }

    private static void isWell() {
        EDGES.at(34, "a new object", "isWell() -> true");
        EDGES.at(34, "24 commits of one line", FULL, "isWell() -> true");
        EDGES.at(34, "commits in no line any more", FULL, "reset(0, 0) -> 23; isWell() -> true");
        EDGES.at(34, "two merges of the same tips", "edit(0, 0, 5) -> 1; fork(0) -> 1; edit(0, 1, 6) -> 2; edit(1, 2, 7) -> 3; fork(0) -> 2; fork(1) -> 3; merge(0, 3, 0) -> 4; merge(1, 2, 0) -> 5; isWell() -> true; edit(0, 3, 1) -> 6; edit(1, 4, 1) -> 7; merge(2, 0, 0) -> 6; merge(2, 1, 0) -> 8; isWell() -> true");
        EDGES.at(34, "merges and picks may differ in no and in several ingredients", SPLIT, "merge(0, 1, 1) -> 4; edit(1, 2, 2) -> 5; edit(1, 3, 3) -> 6; merge(0, 1, 2) -> 7; commitOf(4, 3) -> 0; commitOf(7, 3) -> 2; revert(0, 7, 0) -> 8; commitOf(8, 3) -> 2; isWell() -> true");
        EDGES.at(34, "after undo and restore", SPLIT, "save() -> 4; merge(0, 1, 1) -> 4; undo() -> 4; isWell() -> true; merge(1, 0, 2) -> 4; restore() -> 4; isWell() -> true; edit(0, 5, 5) -> 4; isWell() -> true");
    }

    private static void meanTaste() {
        EDGES.at(35, "0.0 if all tastes are", "meanTaste() -> 0.0;", FIVE, "meanTaste() -> 0.0");
        EDGES.at(35, "of one branch it is its taste as a double", "edit(0, 0, 2) -> 1; meanTaste() -> " + (double) (0.25f / 3.0f));
        EDGES.at(35, "the same tip counts for each branch", "edit(0, 5, 99) -> 1; fork(0) -> 1; fork(0) -> 2; reset(0, 0) -> 1; meanTaste() -> " + (0.0 + (double) 0.7425f + (double) 0.7425f) / 3.0);
        float one = 0.25f / 3.0f;
        float two = 74.25f / 100.0f;
        float three = 0.75f / 4.0f;
        float four = (0.25f + 1.0f) / 5.0f;
        EDGES.at(35, "of 5 branches, summed as doubles", FIVE, "edit(0, 0, 2) -> 1; edit(1, 5, 99) -> 2; edit(2, 1, 3) -> 3; edit(3, 0, 2) -> 4; edit(3, 3, 2) -> 5;",
                "meanTaste() -> " + ((double) one + (double) two + (double) three + (double) four + 0.0) / 5.0);
        EDGES.at(35, "commits that are no tips do not count", "edit(0, 5, 99) -> 1; edit(0, 5, 0) -> 2; meanTaste() -> 0.0; reset(0, 1) -> 2; meanTaste() -> " + (double) 0.7425f);
    }

    private static void editShare() {
        EDGES.at(36, "1.0 for the commit 0 alone", "editShare() -> 1.0");
        EDGES.at(36, "1.0 for 24 edits", FULL, "editShare() -> 1.0");
        EDGES.at(36, "a pick is none", "edit(0, 0, 1) -> 1; revert(0, 1, 0) -> 2; editShare() -> " + 2.0f / 3.0f);
        EDGES.at(36, "a merge is none", SPLIT, "merge(0, 1, 1) -> 4; editShare() -> " + 4.0f / 5.0f);
        EDGES.at(36, "commits in no line any more count", SPLIT, "merge(0, 1, 1) -> 4; reset(0, 0) -> 4; reset(1, 0) -> 3; editShare() -> " + 4.0f / 5.0f);
        StringBuilder text = new StringBuilder("edit(0, 0, 1) -> 1;");
        for (int commit = 2; commit <= 23; commit++) {
            text.append("revert(0, ").append(commit - 1).append(", 0) -> ").append(commit).append(';');
        }
        EDGES.at(36, "2 edits of 24 commits", text.toString(), "account(4) -> 22; editShare() -> " + 2.0f / 24.0f);
    }

    private static void undoNumbers() {
        EDGES.at(37, "no change at first", "undo() -> state; account(10) -> 0");
        EDGES.at(37, "one change, and then none", "edit(0, 0, 1) -> 1; undo() -> 0; undo() -> state; account(0) -> 1");
        EDGES.at(37, "8 changes, and then none", Edges.fill(1, 8), EIGHT_UNDOS, "account(0) -> 1; tip(0) -> 0; undo() -> state; account(0) -> 1");
        EDGES.at(37, "the ninth before is there for good", Edges.fill(1, 9), EIGHT_UNDOS, "account(0) -> 2; tip(0) -> 1; amount(1, 5) -> 1; undo() -> state; tip(0) -> 1");
        EDGES.at(37, "the latest 8 of 23", FULL, EIGHT_UNDOS, "tip(0) -> 15; undo() -> state; account(0) -> 16");
        EDGES.at(37, "8 again after 8 were undone", Edges.fill(1, 9), EIGHT_UNDOS, Edges.fill(2, 10), EIGHT_UNDOS, "tip(0) -> 2; undo() -> state");
        EDGES.at(37, "some are undone and others made", Edges.fill(1, 9), "undo() -> 7; undo() -> 6; edit(0, 0, 1) -> 8; account(10) -> 7; edit(0, 0, 2) -> 9; edit(0, 0, 3) -> 10; account(10) -> 8;", EIGHT_UNDOS, "tip(0) -> 2; undo() -> state");
        EDGES.at(37, "undo cannot be undone", "edit(0, 0, 1) -> 1; edit(0, 0, 2) -> 2; undo() -> 1; undo() -> 0; tip(0) -> 0; undo() -> state");
        EDGES.at(37, "what is made anew has what is in it alone", "edit(0, 0, 1) -> 1; edit(0, 1, 2) -> 2; undo() -> 1; edit(0, 2, 3) -> 2; write(2) -> \"2 e: 1 0 3 0 0 0\"; undo() -> 1; line(2) -> index");
    }

    private static void undoKinds() {
        EDGES.at(37, "an edit", TEN, "edit(0, 5, 5) -> 7; undo() -> 7; tip(0) -> 5; account(0) -> 7");
        EDGES.at(37, "a fork", TEN, "fork(0) -> 2; undo() -> 7; tip(2) -> index; account(1) -> 2");
        EDGES.at(37, "a reset", TEN, "reset(0, 1) -> 5; undo() -> 7; tip(0) -> 5; account(5) -> 0");
        EDGES.at(37, "a merge", TEN, "merge(1, 0, 0) -> 7; undo() -> 7; tip(1) -> 6; account(3) -> 1; isIn(5, 6) -> false");
        EDGES.at(37, "a merge that makes no commit", TEN, "reset(1, 0) -> 6; merge(1, 0, 0) -> 5; undo() -> 7; tip(1) -> 0; account(0) -> 7");
        EDGES.at(37, "a pick", TEN, "pick(1, 1, 0) -> 7; undo() -> 7; tip(1) -> 6; account(4) -> 2");
        EDGES.at(37, "a revert", TEN, "revert(1, 6, 0) -> 7; undo() -> 7; tip(1) -> 6; account(4) -> 2");
        EDGES.at(37, "a bundle", TEN, "bundle(1) -> 0; undo() -> 7; account(6) -> -1; play(0, 0) -> refused 11 -1");
        EDGES.at(37, "a put", TEN, "bundle(0) -> 0; put(2, 1) -> 1; put(2, 3) -> 1; undo() -> 7; inBundle(2) -> 1; undo() -> 6; inBundle(2) -> missing; account(6) -> 0");
        EDGES.at(37, "a play of several", TEN, "bundle(0) -> 0; put(0, 1) -> 1; put(1, 2) -> 2; play(1, 0) -> 2; tip(1) -> 8; undo() -> 7; tip(1) -> 6; account(0) -> 7; account(7) -> 2");
        EDGES.at(37, "a text of several", TEN, "read(\"f0;e2.5=5;r1=0\") -> 3; undo() -> 7; account(1) -> 2; account(0) -> 7; tip(1) -> 6");
    }

    private static void undoNot() {
        EDGES.at(37, "refused calls are no changes", "edit(0, 0, 1) -> 1; edit(0, 0, 1) -> refused 2 1; reset(0, 1) -> refused 3 1; merge(0, 0, 0) -> refused 4 1; play(0, 0) -> refused 11 -1; account(10) -> 1; undo() -> 0; account(0) -> 1");
        EDGES.at(37, "calls with other exceptions are no changes", "edit(0, 0, 1) -> 1; edit(1, 0, 0) -> index; bundle(3) -> argument; read() -> argument; restore() -> state; account(10) -> 1; undo() -> 0");
        EDGES.at(37, "save is no change", "edit(0, 0, 1) -> 1; save() -> 2; account(10) -> 1; undo() -> 0; account(0) -> 1");
        EDGES.at(37, "line, append and questions are no changes", "line(0) -> 16; append(\"x\") -> 1; halve(0, 0, 0, true) -> missing; isWell() -> true; account(10) -> 0; undo() -> state");
        EDGES.at(37, "the input, the line, the error position and the reason stay", "edit(0, 0, 0) -> refused 2 0; edit(0, 0, 10) -> 1; error(\"ex\") -> 1; append(\"f0\") -> 2; line(1) -> 17; undo() -> 0; account(9) -> 2; character(5) -> '1'; errorPosition() -> 1; refusal(false) -> 2; refusal(true) -> 0; read() -> 1");
        EDGES.at(37, "the snapshot stays", "edit(0, 0, 1) -> 1; save() -> 2; undo() -> 0; undo() -> state; restore() -> 2; amount(1, 0) -> 1");
        EDGES.at(37, "the snapshot is not undone", "save() -> 1; edit(0, 0, 1) -> 1; save() -> 2; undo() -> 0; restore() -> 2; tip(0) -> 1");
    }

    private static void save() {
        EDGES.at(38, "1 commit at least", "save() -> 1");
        EDGES.at(38, "24 commits at most", FULL, "save() -> 24; undo() -> 7; save() -> 23");
        EDGES.at(38, "commits in no line any more are told, too", FULL, "reset(0, 0) -> 23; save() -> 24");
        EDGES.at(38, "in place of an earlier one", "save() -> 1; edit(0, 0, 1) -> 1; save() -> 2; edit(0, 0, 2) -> 2; restore() -> 2; tip(0) -> 1");
        EDGES.at(38, "in place of one with more commits", FULL, "save() -> 24;", EIGHT_UNDOS, "save() -> 16; edit(0, 0, 1) -> 16; restore() -> 16; tip(0) -> 15; account(0) -> 16");
        EDGES.at(38, "it is no change, and leaves those to undo", "edit(0, 0, 1) -> 1; save() -> 2; save() -> 2; account(10) -> 1; undo() -> 0; undo() -> state");
        EDGES.at(38, "what changes make later is not in it", SPLIT, "save() -> 4; merge(0, 1, 1) -> 4; fork(0) -> 2; bundle(0) -> 0; put(0, 1) -> 1; restore() -> 4; tip(0) -> 2; account(1) -> 2; account(6) -> -1; account(3) -> 0");
        EDGES.at(38, "the changes to undo are not in it", "edit(0, 0, 1) -> 1; edit(0, 0, 2) -> 2; save() -> 3; restore() -> 3; undo() -> state");
        EDGES.at(38, "a refused call afterwards is nothing", SPLIT, "save() -> 4; merge(0, 1, 0) -> refused 5 0; restore() -> 4; tip(0) -> 2");
    }

    private static void restore() {
        EDGES.at(39, "there is no snapshot at first", "restore() -> state; edit(0, 0, 1) -> 1; restore() -> state; account(0) -> 2; account(10) -> 1");
        EDGES.at(39, "without a snapshot the changes to undo stay", "edit(0, 0, 1) -> 1; restore() -> state; undo() -> 0; tip(0) -> 0");
        EDGES.at(39, "the snapshot of a new object", "save() -> 1;", FULL, "restore() -> 1; account(0) -> 1; tip(0) -> 0; amount(1, 0) -> index");
        EDGES.at(39, "a snapshot of 24 commits", FULL, "save() -> 24;", EIGHT_UNDOS, "edit(0, 0, 9) -> 16; restore() -> 24; tip(0) -> 23; amount(16, 0) -> 0; amount(16, 5) -> 16; edit(0, 0, 1) -> refused 1 24");
        EDGES.at(39, "a snapshot of 5 branches", FIVE, "save() -> 1; undo() -> 3; undo() -> 2; restore() -> 1; account(1) -> 5; tip(4) -> 0; fork(0) -> refused 1 5");
        EDGES.at(39, "fewer branches than there are", "fork(0) -> 1; save() -> 1; fork(0) -> 2; edit(2, 0, 1) -> 1; restore() -> 1; tip(2) -> index; tip(1) -> 0; fork(1) -> 2; tip(2) -> 0");
        EDGES.at(39, "the snapshot stays", "save() -> 1; edit(0, 0, 1) -> 1; restore() -> 1; edit(0, 0, 2) -> 1; edit(0, 0, 3) -> 2; restore() -> 1; restore() -> 1; account(0) -> 1");
        EDGES.at(39, "changes after it are not in the snapshot", SPLIT, "save() -> 4; restore() -> 4; edit(0, 5, 9) -> 4; reset(1, 0) -> 3; restore() -> 4; tip(0) -> 2; tip(1) -> 3; edit(0, 4, 8) -> 4; amount(4, 5) -> 0");
    }

    private static void restoreWhat() {
        EDGES.at(39, "what was made anew in place of commits", SPLIT, "merge(0, 1, 1) -> 4; save() -> 5; undo() -> 4; undo() -> 3; undo() -> 2; edit(0, 5, 5) -> 2; revert(0, 1, 0) -> 3; edit(0, 4, 4) -> 4; commitOf(4, 2) -> -1; commitOf(4, 5) -> 4; fork(0) -> 2; restore() -> 5",
                "commitOf(2, 0) -> 0; commitOf(3, 0) -> 0; commitOf(3, 1) -> 1; commitOf(4, 0) -> 1; commitOf(4, 2) -> 3; commitOf(4, 4) -> 4; commitOf(4, 5) -> 3; isIn(3, 4) -> true; base(2, 3) -> 1; amount(2, 5) -> 0; account(1) -> 2; isWell() -> true");
        EDGES.at(39, "the bundle", SPLIT, "bundle(0) -> 0; put(3, 2) -> 1; put(0, 3) -> 2; save() -> 4; put(3, 1) -> 2; bundle(2) -> 2; restore() -> 4; account(6) -> 0; account(7) -> 2; inBundle(3) -> 2; inBundle(0) -> 3; inBundle(1) -> missing");
        EDGES.at(39, "no bundle", "save() -> 1; bundle(0) -> 0; put(1, 0) -> 1; restore() -> 1; account(6) -> -1; account(7) -> 0; inBundle(1) -> missing; put(0, 0) -> refused 9 -1");
        EDGES.at(39, "the input, the line, the error position and the reason stay", "save() -> 1; edit(0, 0, 0) -> refused 2 0; edit(0, 0, 10) -> 1; error(\"ex\") -> 1; append(\"f0\") -> 2; line(1) -> 17; restore() -> 1; account(9) -> 2; character(5) -> '1'; errorPosition() -> 1; refusal(false) -> 2; refusal(true) -> 0; read() -> 1");
        EDGES.at(39, "they are not saved", "edit(0, 0, 0) -> refused 2 0; error(\"ex\") -> 1; line(0) -> 16; append(\"f0\") -> 2; save() -> 1; reset(0, 0) -> refused 3 0; read() -> 1; edit(0, 0, 10) -> 1; line(1) -> 17; restore() -> 1; account(9) -> 0; character(16) -> '0'; errorPosition() -> -1; refusal(false) -> 3");
    }

    private static void restoreForgets() {
        EDGES.at(39, "a commit that became a merge is none again", SPLIT, "edit(1, 1, 1) -> 4; edit(1, 1, 2) -> 5; save() -> 6; undo() -> 5; undo() -> 4; merge(0, 1, 1) -> 4; commitOf(4, 2) -> 3; restore() -> 6",
                "commitOf(4, 0) -> 0; commitOf(4, 1) -> 3; commitOf(4, 2) -> -1; commitOf(4, 4) -> 3; commitOf(4, 5) -> 3; isIn(2, 4) -> false; baseAgain(2, 5) -> 1; base(2, 5) -> 1; isWell() -> true");
        EDGES.at(39, "it forgets all changes", "save() -> 1;", Edges.fill(1, 9), "account(10) -> 8; restore() -> 1; account(10) -> 0; undo() -> state; account(0) -> 1");
        EDGES.at(39, "it forgets also those before the snapshot", "edit(0, 0, 1) -> 1; save() -> 2; restore() -> 2; undo() -> state; tip(0) -> 1");
        EDGES.at(39, "changes after it can be undone, up to it", "edit(0, 0, 1) -> 1; save() -> 2; edit(0, 0, 2) -> 2; restore() -> 2; edit(0, 0, 3) -> 2; edit(0, 0, 4) -> 3; account(10) -> 2; undo() -> 1; amount(2, 0) -> 3; undo() -> 0; tip(0) -> 1; undo() -> state");
        EDGES.at(39, "8 changes after it", "save() -> 1; edit(0, 0, 1) -> 1; edit(0, 0, 2) -> 2; edit(0, 0, 3) -> 3; restore() -> 1;", Edges.fill(1, 9), EIGHT_UNDOS, "tip(0) -> 1; undo() -> state");
        EDGES.at(39, "it is no change itself", "save() -> 1; restore() -> 1; account(10) -> 0; undo() -> state; restore() -> 1; edit(0, 0, 1) -> 1; account(10) -> 1");
    }

    /** An object is used for 512 calls: the last one is answered as the first one. */
    private static void calls() {
        RecipeForests forests = new RecipeForests();
        boolean isRight = forests.save() == 1;
        for (int i = 0; i < 170; i++) {
            isRight &= forests.edit(0, i % 6, 1 + i % 99) == 1;
            isRight &= i % 2 == 0 ? forests.restore() == 1 : forests.undo() == 0;
            isRight &= forests.account(0) == 1;
        }
        EDGES.due(39, "the call 512", isRight && forests.tip(0) == 0);
    }
}
