/** The boundaries of promises 8 to 15: merges, picks, reverts, ancestors, bases and differences. */
public final class MergeEdgeTests {
    private static final Edges EDGES = new Edges();
    private static final String FIVE = "fork(0) -> 1; fork(0) -> 2; fork(0) -> 3; fork(0) -> 4;";
    // One conflict, in 0: the ground is 10, the tip 2 of the branch 0 has 20, the tip 3 of the branch 1 has 31.
    private static final String SPLIT = "edit(0, 0, 10) -> 1; fork(0) -> 1; edit(0, 0, 20) -> 2; edit(1, 0, 31) -> 3;";
    // Conflicts in all ingredients: the tips are 6 and 12, the ground is the commit 0.
    private static final String SIX =
            "fork(0) -> 1; edit(0, 0, 1) -> 1; edit(0, 1, 2) -> 2; edit(0, 2, 3) -> 3; edit(0, 3, 4) -> 4; edit(0, 4, 5) -> 5; edit(0, 5, 6) -> 6;"
            + "edit(1, 0, 11) -> 7; edit(1, 1, 12) -> 8; edit(1, 2, 13) -> 9; edit(1, 3, 14) -> 10; edit(1, 4, 15) -> 11; edit(1, 5, 16) -> 12;";
    // The branch 1 goes 0 1 2, with 10 and 20 in 0; the branch 0 goes 0 3, with 5 in 1.
    private static final String PICKS = "fork(0) -> 1; edit(1, 0, 10) -> 1; edit(1, 0, 20) -> 2; edit(0, 1, 5) -> 3;";
    // 24 commits: the branch 1 goes 0 1 2, with 7 in 0 and 99 in 5; the branch 0 goes 0 3 to 23, with 23 in 5.
    private static final String FULL_PICKS = "fork(0) -> 1; edit(1, 0, 7) -> 1; edit(1, 5, 99) -> 2;" + Edges.fill(3);
    // Each tip is merged into the other branch: 4 and 5 have both 2 and 3 as ancestors.
    private static final String CROSS =
            "edit(0, 0, 5) -> 1; fork(0) -> 1; edit(0, 1, 6) -> 2; edit(1, 2, 7) -> 3; fork(0) -> 2; fork(1) -> 3;"
            + "merge(0, 3, 0) -> 4; merge(1, 2, 0) -> 5;";

    public static void main(String[] args) {
        mergeArguments();
        mergeWithoutCommit();
        mergeRules();
        mergeRefused();
        pickArguments();
        pickRules();
        pickRefused();
        revertArguments();
        revertRules();
        revertRefused();
        conflicts();
        isIn();
        bases("base", 13);
        bases("baseAgain", 14);
        difference();
        EDGES.finish("edges of merges and picks", 8, 15);
    }

    private static void mergeArguments() {
        EDGES.at(8, "there is no branch -1 to merge into", SPLIT, "merge(-1, 0, 1) -> index; merge(-2147483648, 0, 1) -> index");
        EDGES.at(8, "there is no branch -1 to be merged", SPLIT, "merge(0, -1, 1) -> index; merge(0, -2147483648, 1) -> index");
        EDGES.at(8, "there is no branch beyond the last to merge into", SPLIT, "merge(2, 0, 1) -> index; merge(2147483647, 0, 1) -> index; merge(1, 0, 1) -> 4");
        EDGES.at(8, "there is no branch beyond the last to be merged", SPLIT, "merge(0, 2, 1) -> index; merge(0, 2147483647, 1) -> index; merge(0, 1, 1) -> 4");
        EDGES.at(8, "the last of 5 branches is 4", FIVE, "edit(4, 0, 1) -> 1; edit(0, 1, 1) -> 2; merge(0, 5, 0) -> index; merge(5, 0, 0) -> index; merge(0, 4, 0) -> 3; merge(4, 0, 0) -> 3");
        EDGES.at(8, "the rule -1 is none", SPLIT, "merge(0, 1, -1) -> argument; merge(0, 1, -2147483648) -> argument");
        EDGES.at(8, "the rule 4 is none", SPLIT, "merge(0, 1, 4) -> argument; merge(0, 1, 2147483647) -> argument; merge(0, 1, 3) -> 4");
        EDGES.at(8, "a missing branch comes before a bad rule", "merge(0, 1, 4) -> index; merge(1, 0, -1) -> index");
        EDGES.at(8, "a bad rule comes before a refusal", "merge(0, 0, 4) -> argument; merge(0, 0, -1) -> argument; refusal(false) -> missing");
        EDGES.at(8, "a missing branch comes before a refusal", Edges.fill(1), "merge(0, 1, 0) -> index; merge(1, 0, 0) -> index; refusal(false) -> missing");
    }

    private static void mergeWithoutCommit() {
        EDGES.at(8, "no commit is made if the tip is the parent of the tip that is merged", "fork(0) -> 1; edit(1, 0, 1) -> 1; merge(0, 1, 0) -> 1; tip(0) -> 1; account(0) -> 2; account(3) -> 0");
        EDGES.at(8, "no commit is made if the tip is a far ancestor of it", "fork(0) -> 1;", Edges.fill(1, 7), "merge(1, 0, 3) -> 7; tip(1) -> 7; tip(0) -> 7; account(0) -> 8; account(10) -> 8");
        EDGES.at(8, "no commit is made if the tip is an ancestor by a second parent", SPLIT, "merge(0, 1, 1) -> 4; merge(1, 0, 0) -> 4; tip(1) -> 4; account(0) -> 5; account(3) -> 1");
        EDGES.at(8, "with 24 commits a merge that makes none is not refused for 1", "fork(0) -> 1;", Edges.fill(1), "merge(1, 0, 0) -> 23; tip(1) -> 23; account(0) -> 24; account(3) -> 0");
        EDGES.at(8, "a merge that makes none is a change", "fork(0) -> 1; edit(1, 0, 1) -> 1; merge(0, 1, 0) -> 1; account(10) -> 3; undo() -> 2; tip(0) -> 0; tip(1) -> 1; account(0) -> 2");
        EDGES.at(8, "a merge whose amounts are those of the tip is made all the same", "fork(0) -> 1; edit(0, 0, 9) -> 1; edit(1, 0, 9) -> 2; merge(0, 1, 0) -> 3; difference(1, 3) -> 0; commitOf(3, 0) -> 1; account(0) -> 4");
        EDGES.at(8, "by the rule 1 such a merge is made, too", SPLIT, "merge(0, 1, 1) -> 4; difference(2, 4) -> 0; tip(0) -> 4");
    }

    private static void mergeRules() {
        EDGES.at(8, "what the one alone did not change is that of the other one", SPLIT, "edit(1, 5, 8) -> 4; edit(1, 0, 10) -> 5; merge(0, 1, 0) -> 6; amount(6, 5) -> 8; amount(6, 0) -> 20");
        EDGES.at(8, "what the other one did not change is that of the one", SPLIT, "edit(0, 5, 8) -> 4; edit(0, 0, 10) -> 5; merge(0, 1, 0) -> 6; amount(6, 5) -> 8; amount(6, 0) -> 31");
        EDGES.at(8, "what both changed to the same is no conflict", SPLIT, "edit(0, 0, 31) -> 4; merge(0, 1, 0) -> 5; amount(5, 0) -> 31");
        EDGES.at(8, "what both changed to 0 is no conflict", SPLIT, "edit(0, 0, 0) -> 4; edit(1, 0, 0) -> 5; merge(0, 1, 0) -> 6; amount(6, 0) -> 0");
        EDGES.at(8, "what was changed and changed back is not changed", SPLIT, "edit(0, 0, 10) -> 4; merge(0, 1, 0) -> 5; amount(5, 0) -> 31");
        EDGES.at(8, "by the rule 0 nothing is put together if there is a conflict", SPLIT, "edit(1, 5, 8) -> 4; merge(0, 1, 0) -> refused 5 0; tip(0) -> 2; tip(1) -> 4; account(0) -> 5");
        EDGES.at(8, "by the rule 1 it is that of the one", SPLIT, "merge(0, 1, 1) -> 4; amount(4, 0) -> 20; undo() -> 4; merge(1, 0, 1) -> 4; amount(4, 0) -> 31");
        EDGES.at(8, "by the rule 2 it is that of the other one", SPLIT, "merge(0, 1, 2) -> 4; amount(4, 0) -> 31; undo() -> 4; merge(1, 0, 2) -> 4; amount(4, 0) -> 20");
        EDGES.at(8, "by the rule 3 it is the mean, rounded down", SPLIT, "merge(0, 1, 3) -> 4; amount(4, 0) -> 25; undo() -> 4; merge(1, 0, 3) -> 4; amount(4, 0) -> 25");
        EDGES.at(8, "the mean of 0 and 99 is 49", SPLIT, "edit(0, 0, 0) -> 4; edit(1, 0, 99) -> 5; merge(0, 1, 3) -> 6; amount(6, 0) -> 49");
        EDGES.at(8, "the mean of 98 and 99 is 98", SPLIT, "edit(0, 0, 98) -> 4; edit(1, 0, 99) -> 5; merge(0, 1, 3) -> 6; amount(6, 0) -> 98");
        EDGES.at(8, "the mean of 97 and 99 is 98", SPLIT, "edit(0, 0, 97) -> 4; edit(1, 0, 99) -> 5; merge(0, 1, 3) -> 6; amount(6, 0) -> 98");
        EDGES.at(8, "the mean of 0 and 1 is 0", SPLIT, "edit(0, 0, 0) -> 4; edit(1, 0, 1) -> 5; merge(0, 1, 3) -> 6; amount(6, 0) -> 0");
        EDGES.at(8, "a rule is for conflicts alone", SPLIT, "edit(1, 5, 9) -> 4; edit(0, 4, 8) -> 5; merge(0, 1, 1) -> 6; write(6) -> \"6 m: 20 0 0 0 8 9\"; undo() -> 6",
                "merge(0, 1, 2) -> 6; write(6) -> \"6 m: 31 0 0 0 8 9\"; undo() -> 6; merge(0, 1, 3) -> 6; write(6) -> \"6 m: 25 0 0 0 8 9\"");
        EDGES.at(8, "a rule is for all conflicts", SIX, "merge(0, 1, 1) -> 13; write(13) -> \"13 m: 1 2 3 4 5 6\"; undo() -> 7; merge(0, 1, 2) -> 13; write(13) -> \"13 m: 11 12 13 14 15 16\"",
                "undo() -> 7; merge(0, 1, 3) -> 13; write(13) -> \"13 m: 6 7 8 9 10 11\"");
        // By the other common ancestors, 2 and 1, the amount of 2 would be 7.
        EDGES.at(8, "the ground is the base with the greatest number", CROSS, "edit(0, 2, 0) -> 6; merge(0, 1, 0) -> 7; amount(7, 2) -> 0; amount(7, 1) -> 6");
    }

    private static void mergeRefused() {
        EDGES.at(8, "4: a branch into itself", "merge(0, 0, 0) -> refused 4 0; edit(0, 0, 1) -> 1; merge(0, 0, 3) -> refused 4 1");
        EDGES.at(8, "4: the tip is the same", "edit(0, 0, 1) -> 1; fork(0) -> 1; merge(0, 1, 0) -> refused 4 1; merge(1, 0, 2) -> refused 4 1");
        EDGES.at(8, "4: the tip that is merged is the first parent", "fork(0) -> 1; edit(0, 0, 1) -> 1; merge(0, 1, 0) -> refused 4 0");
        EDGES.at(8, "4: the tip that is merged is a far ancestor", "edit(0, 0, 1) -> 1; fork(0) -> 1;", Edges.fill(2), "merge(0, 1, 1) -> refused 4 1");
        EDGES.at(8, "4: the tip that is merged is the second parent", SPLIT, "merge(0, 1, 1) -> 4; merge(0, 1, 1) -> refused 4 3");
        EDGES.at(8, "4 comes before 1", FULL_PICKS, "merge(0, 0, 1) -> refused 4 23; reset(1, 4) -> 2; merge(0, 1, 1) -> refused 4 4");
        EDGES.at(8, "5: the lowest of all ingredients", SIX, "merge(0, 1, 0) -> refused 5 0; merge(1, 0, 0) -> refused 5 0");
        EDGES.at(8, "5: the ingredient 5 alone", SIX, "edit(0, 0, 0) -> 13; edit(0, 1, 0) -> 14; edit(0, 2, 0) -> 15; edit(0, 3, 0) -> 16; edit(0, 4, 0) -> 17; conflicts(0, 1) -> 1; merge(0, 1, 0) -> refused 5 5");
        EDGES.at(8, "5: the lowest of 2 and 5", SIX, "edit(0, 0, 0) -> 13; edit(0, 1, 0) -> 14; edit(1, 3, 4) -> 15; edit(0, 4, 0) -> 16; conflicts(0, 1) -> 2; merge(0, 1, 0) -> refused 5 2");
        EDGES.at(8, "5: by the rule 0 alone", SPLIT, "merge(0, 1, 0) -> refused 5 0; merge(0, 1, 1) -> 4; undo() -> 4; merge(0, 1, 2) -> 4; undo() -> 4; merge(0, 1, 3) -> 4");
        EDGES.at(8, "5 comes before 1", FULL_PICKS, "merge(0, 1, 0) -> refused 5 5; merge(1, 0, 0) -> refused 5 5");
        EDGES.at(8, "1: the commit 23 is the last of 24", "fork(0) -> 1; edit(1, 0, 7) -> 1;", Edges.fill(2, 22), "merge(0, 1, 0) -> 23; account(0) -> 24; tip(0) -> 23; edit(1, 1, 1) -> refused 1 24");
        EDGES.at(8, "1: without a conflict", "fork(0) -> 1; edit(1, 0, 7) -> 1;", Edges.fill(2), "merge(0, 1, 0) -> refused 1 24; merge(1, 0, 0) -> refused 1 24");
        EDGES.at(8, "1: by each other rule", FULL_PICKS, "merge(0, 1, 1) -> refused 1 24; merge(0, 1, 2) -> refused 1 24; merge(0, 1, 3) -> refused 1 24; tip(0) -> 23; tip(1) -> 2");
    }

    private static void pickArguments() {
        EDGES.at(9, "there is no branch -1", PICKS, "pick(-1, 1, 0) -> index; pick(-2147483648, 1, 0) -> index");
        EDGES.at(9, "there is no branch beyond the last", PICKS, "pick(2, 1, 0) -> index; pick(2147483647, 1, 0) -> index; pick(1, 3, 0) -> 4");
        EDGES.at(9, "the last of 5 branches is 4", FIVE, "edit(0, 0, 1) -> 1; pick(5, 1, 0) -> index; pick(4, 1, 0) -> 2; tip(4) -> 2");
        EDGES.at(9, "there is no commit -1", PICKS, "pick(0, -1, 0) -> index; pick(0, -2147483648, 0) -> index");
        EDGES.at(9, "there is no commit beyond the last", PICKS, "pick(0, 4, 0) -> index; pick(1, 4, 0) -> index; pick(1, 2147483647, 0) -> index; pick(1, 3, 0) -> 4");
        EDGES.at(9, "the last of 24 commits is 23", FULL_PICKS, "pick(1, 24, 2) -> index; pick(1, 23, 2) -> refused 1 24");
        EDGES.at(9, "the rule -1 is none", PICKS, "pick(0, 1, -1) -> argument; pick(0, 1, -2147483648) -> argument");
        EDGES.at(9, "the rule 4 is none", PICKS, "pick(0, 1, 4) -> argument; pick(0, 1, 2147483647) -> argument; pick(0, 1, 3) -> 4");
        EDGES.at(9, "a missing branch or commit comes before a bad rule", "pick(1, 0, 4) -> index; pick(0, 1, 4) -> index; pick(-1, -1, -1) -> index");
        EDGES.at(9, "a bad rule comes before a refusal", "pick(0, 0, 4) -> argument; pick(0, 0, -1) -> argument; refusal(false) -> missing");
        EDGES.at(9, "a missing branch or commit comes before a refusal", "pick(1, 0, 0) -> index; pick(0, 1, 0) -> index; refusal(false) -> missing");
    }

    private static void pickRules() {
        EDGES.at(9, "what the commit changed is picked, and nothing else", PICKS, "edit(1, 2, 9) -> 4; pick(0, 4, 0) -> 5; write(5) -> \"5 p: 0 5 9 0 0 0\"; commitOf(5, 1) -> 3; commitOf(5, 2) -> -1; tip(0) -> 5; tip(1) -> 4");
        EDGES.at(9, "by the rule 1 a conflict keeps that of the tip", PICKS, "edit(0, 0, 1) -> 4; pick(0, 2, 1) -> refused 7 4");
        EDGES.at(9, "by the rule 2 a conflict takes that of the commit", PICKS, "edit(0, 0, 1) -> 4; pick(0, 2, 2) -> 5; amount(5, 0) -> 20");
        EDGES.at(9, "by the rule 3 a conflict takes the mean, rounded down", PICKS, "edit(0, 0, 1) -> 4; pick(0, 2, 3) -> 5; amount(5, 0) -> 10");
        EDGES.at(9, "the ground is the first parent of the commit", PICKS, "edit(0, 0, 10) -> 4; pick(0, 2, 0) -> 5; amount(5, 0) -> 20");
        EDGES.at(9, "the ground of a merge is its first parent", SPLIT, "edit(1, 5, 9) -> 4; merge(0, 1, 1) -> 5; reset(0, 0) -> 5; pick(0, 5, 0) -> 6; write(6) -> \"6 p: 0 0 0 0 0 9\"");
        EDGES.at(9, "a pick can be picked", PICKS, "pick(0, 1, 0) -> 4; reset(0, 3) -> 4; pick(0, 4, 0) -> 5; amount(5, 0) -> 10; commitOf(5, 1) -> 3");
        EDGES.at(9, "a commit in no line any more can be picked", PICKS, "reset(1, 0) -> 2; account(5) -> 2; pick(0, 1, 0) -> 4; amount(4, 0) -> 10; pick(0, 2, 0) -> 5; amount(5, 0) -> 20; isIn(2, 5) -> false");
        EDGES.at(9, "a descendant of the tip can be picked", "fork(0) -> 1; edit(0, 0, 1) -> 1; pick(1, 1, 0) -> 2; amount(2, 0) -> 1; commitOf(2, 1) -> 0");
    }

    private static void pickRefused() {
        EDGES.at(9, "4: the commit 0, always", "pick(0, 0, 0) -> refused 4 0; edit(0, 0, 1) -> 1; pick(0, 0, 3) -> refused 4 0");
        EDGES.at(9, "4: the tip itself", PICKS, "pick(0, 3, 0) -> refused 4 3; pick(1, 2, 2) -> refused 4 2");
        EDGES.at(9, "4: an ancestor by first parents", PICKS, "pick(1, 1, 0) -> refused 4 1");
        EDGES.at(9, "4: an ancestor by a second parent", SPLIT, "merge(0, 1, 1) -> 4; pick(0, 3, 2) -> refused 4 3");
        EDGES.at(9, "4 comes before 5, 7 and 1", FULL_PICKS, "pick(0, 3, 0) -> refused 4 3; pick(0, 23, 0) -> refused 4 23; pick(1, 1, 0) -> refused 4 1");
        EDGES.at(9, "5: the lowest of all ingredients", SIX, "fork(0) -> 2; reset(2, 0) -> 6; edit(2, 0, 50) -> 13; merge(2, 1, 2) -> 14; pick(0, 14, 0) -> refused 5 0");
        EDGES.at(9, "5: the ingredient 5 alone", SIX, "pick(0, 12, 0) -> refused 5 5; pick(1, 6, 0) -> refused 5 5");
        EDGES.at(9, "5: by the rule 0 alone", SIX, "pick(0, 12, 0) -> refused 5 5; pick(0, 12, 2) -> 13; undo() -> 7; pick(0, 12, 3) -> 13; amount(13, 5) -> 11");
        EDGES.at(9, "7: what is picked already", PICKS, "pick(0, 1, 0) -> 4; pick(0, 1, 0) -> refused 7 4; pick(0, 1, 2) -> refused 7 4");
        EDGES.at(9, "7: what the tip changed in the same way", PICKS, "edit(0, 0, 20) -> 4; pick(0, 2, 0) -> refused 7 4");
        EDGES.at(9, "7: where the mean is that of the tip", PICKS, "edit(0, 0, 19) -> 4; pick(0, 2, 3) -> refused 7 4; edit(0, 0, 18) -> 5; pick(0, 2, 3) -> 6; amount(6, 0) -> 19");
        EDGES.at(9, "7: a merge with the amounts of its first parent", SPLIT, "merge(0, 1, 1) -> 4; pick(1, 4, 0) -> refused 7 3");
        EDGES.at(9, "5 comes before 1", FULL_PICKS, "pick(0, 2, 0) -> refused 5 5");
        EDGES.at(9, "7 comes before 1", FULL_PICKS, "pick(0, 2, 1) -> refused 7 23");
        EDGES.at(9, "1: the commit 23 is the last of 24", "fork(0) -> 1; edit(1, 0, 7) -> 1;", Edges.fill(2, 22), "pick(0, 1, 0) -> 23; account(0) -> 24; account(4) -> 1; edit(0, 0, 8) -> refused 1 24");
        EDGES.at(9, "1: with 24 commits", FULL_PICKS, "pick(0, 1, 0) -> refused 1 24; pick(0, 2, 2) -> refused 1 24; pick(0, 2, 3) -> refused 1 24; tip(0) -> 23");
    }

    private static void revertArguments() {
        EDGES.at(10, "there is no branch -1", SPLIT, "revert(-1, 1, 0) -> index; revert(-2147483648, 1, 0) -> index");
        EDGES.at(10, "there is no branch beyond the last", SPLIT, "revert(2, 1, 0) -> index; revert(2147483647, 1, 0) -> index; revert(1, 3, 0) -> 4");
        EDGES.at(10, "the last of 5 branches is 4", FIVE, "edit(4, 0, 1) -> 1; revert(5, 1, 0) -> index; revert(4, 1, 0) -> 2; tip(4) -> 2");
        EDGES.at(10, "there is no commit -1", SPLIT, "revert(0, -1, 0) -> index; revert(0, -2147483648, 0) -> index");
        EDGES.at(10, "there is no commit beyond the last", SPLIT, "revert(1, 4, 0) -> index; revert(1, 2147483647, 0) -> index; revert(1, 3, 0) -> 4");
        EDGES.at(10, "the last of 24 commits is 23", Edges.fill(1), "revert(0, 24, 0) -> index; revert(0, 23, 0) -> refused 1 24");
        EDGES.at(10, "the rule -1 is none", SPLIT, "revert(0, 2, -1) -> argument; revert(0, 2, -2147483648) -> argument");
        EDGES.at(10, "the rule 4 is none", SPLIT, "revert(0, 2, 4) -> argument; revert(0, 2, 2147483647) -> argument; revert(0, 2, 3) -> 4");
        EDGES.at(10, "a missing branch or commit comes before a bad rule", "revert(1, 0, 4) -> index; revert(0, 1, 4) -> index; revert(-1, -1, -1) -> index");
        EDGES.at(10, "a bad rule comes before a refusal", "revert(0, 0, 4) -> argument; revert(0, 0, -1) -> argument; refusal(false) -> missing");
        EDGES.at(10, "a missing branch or commit comes before a refusal", "revert(1, 0, 0) -> index; revert(0, 1, 0) -> index; refusal(false) -> missing");
    }

    private static void revertRules() {
        EDGES.at(10, "the tip itself can be reverted", "edit(0, 0, 9) -> 1; revert(0, 1, 0) -> 2; write(2) -> \"2 p: 0 0 0 0 0 0\"; commitOf(2, 1) -> 1; commitOf(2, 2) -> -1; tip(0) -> 2");
        EDGES.at(10, "what came after it stays", "edit(0, 0, 9) -> 1; edit(0, 1, 8) -> 2; revert(0, 1, 0) -> 3; write(3) -> \"3 p: 0 8 0 0 0 0\"");
        EDGES.at(10, "an ancestor by a second parent can be reverted", SPLIT, "edit(1, 5, 9) -> 4; merge(0, 1, 1) -> 5; revert(0, 4, 0) -> 6; write(6) -> \"6 p: 20 0 0 0 0 0\"");
        EDGES.at(10, "a merge is reverted to its first parent", SPLIT, "edit(1, 5, 9) -> 4; merge(0, 1, 2) -> 5; revert(0, 5, 0) -> 6; difference(6, 2) -> 0; commitOf(6, 1) -> 5");
        EDGES.at(10, "a revert can be reverted", "edit(0, 0, 9) -> 1; revert(0, 1, 0) -> 2; revert(0, 2, 0) -> 3; amount(3, 0) -> 9");
        EDGES.at(10, "by the rule 1 a conflict keeps that of the tip", SPLIT, "revert(0, 1, 1) -> refused 7 2; edit(0, 5, 1) -> 4; revert(0, 1, 1) -> refused 7 4");
        EDGES.at(10, "by the rule 2 a conflict takes that of the first parent", SPLIT, "revert(0, 1, 2) -> 4; amount(4, 0) -> 0");
        EDGES.at(10, "by the rule 3 a conflict takes the mean, rounded down", SPLIT, "revert(1, 1, 3) -> 4; amount(4, 0) -> 15");
    }

    private static void revertRefused() {
        EDGES.at(10, "6: the commit 0, with the detail 0", "revert(0, 0, 0) -> refused 6 0; edit(0, 0, 1) -> 1; revert(0, 0, 3) -> refused 6 0");
        EDGES.at(10, "6 comes before 1", Edges.fill(1), "revert(0, 0, 0) -> refused 6 0");
        EDGES.at(10, "8: a commit of another branch", SPLIT, "revert(0, 3, 0) -> refused 8 3; revert(1, 2, 0) -> refused 8 2");
        EDGES.at(10, "8: a descendant of the tip", "fork(0) -> 1; edit(0, 0, 1) -> 1; revert(1, 1, 0) -> refused 8 1");
        EDGES.at(10, "8: a commit in no line any more", "edit(0, 0, 1) -> 1; edit(0, 0, 2) -> 2; reset(0, 1) -> 2; revert(0, 2, 0) -> refused 8 2; revert(0, 1, 0) -> 3");
        EDGES.at(10, "8: a commit that was picked", PICKS, "pick(0, 1, 0) -> 4; revert(0, 1, 0) -> refused 8 1; revert(0, 4, 0) -> 5");
        EDGES.at(10, "8 comes before 5", PICKS, "edit(0, 0, 3) -> 4; revert(0, 2, 0) -> refused 8 2");
        EDGES.at(10, "8 comes before 7", PICKS, "revert(0, 1, 0) -> refused 8 1");
        EDGES.at(10, "8 comes before 1", FULL_PICKS, "revert(0, 2, 2) -> refused 8 2");
        EDGES.at(10, "5: the lowest ingredient", SIX, "edit(0, 0, 50) -> 13; merge(0, 1, 2) -> 14; edit(0, 5, 60) -> 15; revert(0, 14, 0) -> refused 5 5; edit(0, 3, 60) -> 16; revert(0, 14, 0) -> refused 5 3");
        EDGES.at(10, "5: by the rule 0 alone", SPLIT, "revert(0, 1, 0) -> refused 5 0; revert(0, 1, 2) -> 4; undo() -> 4; revert(0, 1, 3) -> 4; amount(4, 0) -> 10");
        EDGES.at(10, "7: what is reverted already", SPLIT, "revert(0, 2, 0) -> 4; revert(0, 2, 0) -> refused 7 4");
        EDGES.at(10, "7: a merge with the amounts of its first parent", SPLIT, "merge(0, 1, 1) -> 4; revert(0, 4, 0) -> refused 7 4");
        EDGES.at(10, "7: where the mean is that of the tip", "edit(0, 0, 1) -> 1; edit(0, 0, 5) -> 2; edit(0, 0, 0) -> 3; revert(0, 2, 3) -> refused 7 3; revert(0, 2, 2) -> 4; amount(4, 0) -> 1");
        EDGES.at(10, "5 comes before 1", Edges.fill(1), "revert(0, 22, 0) -> refused 5 5");
        EDGES.at(10, "7 comes before 1", Edges.fill(1), "revert(0, 22, 1) -> refused 7 23");
        EDGES.at(10, "1: the commit 23 is the last of 24", Edges.fill(1, 22), "revert(0, 22, 0) -> 23; amount(23, 5) -> 21; account(0) -> 24; revert(0, 23, 0) -> refused 1 24");
        EDGES.at(10, "1: with 24 commits", Edges.fill(1), "revert(0, 23, 0) -> refused 1 24; revert(0, 22, 2) -> refused 1 24; revert(0, 1, 3) -> refused 1 24; tip(0) -> 23");
    }

    private static void conflicts() {
        EDGES.at(11, "there is no branch -1", "conflicts(-1, 0) -> index; conflicts(0, -1) -> index; conflicts(-2147483648, -2147483648) -> index");
        EDGES.at(11, "there is no branch beyond the last", "conflicts(1, 0) -> index; conflicts(0, 1) -> index; fork(0) -> 1; conflicts(1, 0) -> 0; conflicts(0, 1) -> 0; conflicts(2, 0) -> index; conflicts(0, 2) -> index");
        EDGES.at(11, "the last of 5 branches is 4", FIVE, "conflicts(4, 0) -> 0; conflicts(0, 4) -> 0; conflicts(5, 0) -> index; conflicts(0, 5) -> index");
        EDGES.at(11, "none with itself", SPLIT, "conflicts(0, 0) -> 0; conflicts(1, 1) -> 0");
        EDGES.at(11, "none if one tip is an ancestor of the other one", "fork(0) -> 1; edit(0, 0, 5) -> 1; conflicts(0, 1) -> 0; conflicts(1, 0) -> 0");
        EDGES.at(11, "none if both changed to the same", SPLIT, "edit(0, 0, 31) -> 4; conflicts(0, 1) -> 0; conflicts(1, 0) -> 0");
        EDGES.at(11, "none if each changed something else", SPLIT, "edit(0, 0, 10) -> 4; edit(0, 1, 3) -> 5; conflicts(0, 1) -> 0");
        EDGES.at(11, "one alone", SPLIT, "conflicts(0, 1) -> 1; conflicts(1, 0) -> 1");
        EDGES.at(11, "all 6 ingredients", SIX, "conflicts(0, 1) -> 6; conflicts(1, 0) -> 6");
        EDGES.at(11, "with 24 commits, and without a refusal", FULL_PICKS, "conflicts(0, 1) -> 1; conflicts(0, 0) -> 0; refusal(false) -> missing");
        EDGES.at(11, "by the base with the greatest number", CROSS, "edit(0, 2, 0) -> 6; conflicts(0, 1) -> 0; edit(1, 2, 9) -> 7; conflicts(0, 1) -> 1");
    }

    private static void isIn() {
        EDGES.at(12, "there is no commit -1", "isIn(-1, 0) -> index; isIn(0, -1) -> index; isIn(-2147483648, 0) -> index; isIn(0, -2147483648) -> index");
        EDGES.at(12, "there is no commit beyond the last", "isIn(1, 0) -> index; isIn(0, 1) -> index; edit(0, 0, 1) -> 1; isIn(1, 0) -> false; isIn(0, 1) -> true; isIn(2, 0) -> index; isIn(0, 2) -> index");
        EDGES.at(12, "the last of 24 commits is 23", Edges.fill(1), "isIn(0, 23) -> true; isIn(23, 0) -> false; isIn(22, 23) -> true; isIn(24, 0) -> index; isIn(0, 24) -> index; isIn(32, 0) -> index; isIn(2147483647, 23) -> index");
        EDGES.at(12, "a commit is in itself", Edges.fill(1), "isIn(0, 0) -> true; isIn(23, 23) -> true; isIn(7, 7) -> true");
        EDGES.at(12, "by the second parent, too", SPLIT, "merge(0, 1, 1) -> 4; isIn(3, 4) -> true; isIn(2, 4) -> true; isIn(1, 4) -> true; isIn(4, 3) -> false");
        EDGES.at(12, "commits side by side are not in each other", SPLIT, "isIn(2, 3) -> false; isIn(3, 2) -> false");
        EDGES.at(12, "a commit that is picked is not in the pick", PICKS, "pick(0, 1, 0) -> 4; isIn(1, 4) -> false; isIn(3, 4) -> true");
    }

    private static void bases(String name, int promise) {
        EDGES.at(promise, "there is no commit -1", name + "(-1, 0) -> index;" + name + "(0, -1) -> index;" + name + "(-2147483648, -2147483648) -> index");
        EDGES.at(promise, "there is no commit beyond the last", name + "(1, 0) -> index;" + name + "(0, 1) -> index; edit(0, 0, 1) -> 1;",
                name + "(1, 0) -> 0;" + name + "(0, 1) -> 0;" + name + "(2, 0) -> index;" + name + "(0, 2) -> index;" + name + "(2147483647, 0) -> index");
        EDGES.at(promise, "the last of 24 commits is 23", Edges.fill(1), name + "(23, 22) -> 22;" + name + "(0, 23) -> 0;" + name + "(24, 0) -> index;" + name + "(0, 24) -> index");
        EDGES.at(promise, "the base with itself is itself", SPLIT, name + "(0, 0) -> 0;" + name + "(3, 3) -> 3;" + name + "(2, 2) -> 2");
        EDGES.at(promise, "the base with an ancestor is the ancestor", SPLIT, name + "(3, 1) -> 1;" + name + "(1, 3) -> 1;" + name + "(3, 0) -> 0");
        EDGES.at(promise, "the base is the commit 0 at last", "fork(0) -> 1; edit(0, 0, 1) -> 1; edit(1, 0, 2) -> 2;", name + "(1, 2) -> 0;" + name + "(2, 1) -> 0");
        EDGES.at(promise, "an ancestor by a second parent can be it", SPLIT, "merge(0, 1, 1) -> 4; edit(1, 1, 1) -> 5;", name + "(4, 5) -> 3;" + name + "(5, 4) -> 3");
        EDGES.at(promise, "the greatest number of several", CROSS, name + "(4, 5) -> 3;" + name + "(5, 4) -> 3;" + name + "(4, 2) -> 2;" + name + "(3, 4) -> 3");
        EDGES.at(promise, "a commit that is picked is no ancestor", PICKS, "pick(0, 1, 0) -> 4;", name + "(4, 1) -> 0;" + name + "(2, 4) -> 0");
    }

    private static void difference() {
        EDGES.at(15, "there is no commit -1", "difference(-1, 0) -> index; difference(0, -1) -> index; difference(-2147483648, 0) -> index");
        EDGES.at(15, "there is no commit beyond the last", "difference(1, 0) -> index; difference(0, 1) -> index; edit(0, 0, 7) -> 1; difference(1, 0) -> 7; difference(0, 1) -> 7; difference(2, 0) -> index; difference(0, 2) -> index");
        EDGES.at(15, "the last of 24 commits is 23", Edges.fill(1), "difference(23, 0) -> 23; difference(0, 23) -> 23; difference(24, 0) -> index; difference(0, 2147483647) -> index");
        EDGES.at(15, "0 with itself", SPLIT, "difference(3, 3) -> 0; difference(0, 0) -> 0");
        EDGES.at(15, "0 between equal amounts", SPLIT, "merge(0, 1, 1) -> 4; difference(4, 2) -> 0; difference(2, 4) -> 0");
        EDGES.at(15, "594 at most", "edit(0, 0, 99) -> 1; edit(0, 1, 99) -> 2; edit(0, 2, 99) -> 3; edit(0, 3, 99) -> 4; edit(0, 4, 99) -> 5; edit(0, 5, 99) -> 6; difference(0, 6) -> 594; difference(6, 0) -> 594; difference(5, 6) -> 99");
        EDGES.at(15, "more here and less there do not cancel", "fork(0) -> 1; edit(0, 0, 9) -> 1; edit(1, 5, 9) -> 2; difference(1, 2) -> 18; difference(2, 1) -> 18");
    }
}
