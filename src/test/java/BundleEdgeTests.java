/** The boundaries of promises 23 to 26: bundles. */
public final class BundleEdgeTests {
    private static final Edges EDGES = new Edges();
    private static final String FULL = Edges.fill(1);
    private static final String FIVE = "fork(0) -> 1; fork(0) -> 2; fork(0) -> 3; fork(0) -> 4;";
    // The commits 0 to 2 are edits, 3 is a merge and 4 is a pick.
    private static final String KINDS = "fork(0) -> 1; edit(0, 0, 1) -> 1; edit(1, 1, 2) -> 2; merge(0, 1, 0) -> 3; revert(0, 2, 0) -> 4;";
    // The branch 1 goes 0 1 2 3 4, each of another ingredient.
    private static final String EDITS = "fork(0) -> 1; edit(1, 0, 1) -> 1; edit(1, 1, 2) -> 2; edit(1, 2, 3) -> 3; edit(1, 3, 4) -> 4;";
    private static final String FOUR = EDITS + "bundle(0) -> 0; put(0, 1) -> 1; put(1, 2) -> 2; put(2, 3) -> 3; put(3, 4) -> 4;";
    // The branch 1 goes 0 1 2, with 10 and 20 in 0.
    private static final String TWO = "fork(0) -> 1; edit(1, 0, 10) -> 1; edit(1, 0, 20) -> 2; bundle(0) -> 0;";

    public static void main(String[] args) {
        bundle();
        putArguments();
        putRefused();
        putPlaces();
        inBundle();
        playArguments();
        play();
        playRefused();
        playWholeOrNot();
        EDGES.finish("edges of bundles", 23, 26);
    }

    private static void bundle() {
        EDGES.at(23, "what is not -1", "bundle(-1) -> argument; bundle(-2147483648) -> argument; account(6) -> -1");
        EDGES.at(23, "what is 0 at least", "bundle(0) -> 0; account(6) -> 0; put(0, 0) -> 1");
        EDGES.at(23, "what is 2 at most", "bundle(2) -> 0; account(6) -> 2; put(0, 0) -> refused 9 2");
        EDGES.at(23, "what is not 3", "bundle(3) -> argument; bundle(2147483647) -> argument; account(6) -> -1");
        EDGES.at(23, "0 were in none", "bundle(1) -> 0; account(6) -> 1; account(7) -> 0");
        EDGES.at(23, "0 were in an empty one", "bundle(0) -> 0; bundle(0) -> 0; bundle(1) -> 0");
        EDGES.at(23, "1 was in one", "bundle(0) -> 0; put(2, 0) -> 1; bundle(2) -> 1; bundle(2) -> 0");
        EDGES.at(23, "4 were in a full one", FOUR, "account(7) -> 4; bundle(0) -> 4; account(7) -> 0");
        EDGES.at(23, "all 4 places are empty", FOUR, "bundle(0) -> 4; inBundle(0) -> missing; inBundle(1) -> missing; inBundle(2) -> missing; inBundle(3) -> missing; play(0, 0) -> refused 11 0");
        EDGES.at(23, "a bad what leaves the bundle before", FOUR, "bundle(3) -> argument; bundle(-1) -> argument; account(6) -> 0; account(7) -> 4; inBundle(3) -> 4");
        EDGES.at(23, "it is a change, also for the same", "bundle(0) -> 0; bundle(0) -> 0; account(10) -> 2; undo() -> 1; account(6) -> 0; undo() -> 0; account(6) -> -1");
        EDGES.at(23, "undo brings back a full one", FOUR, "bundle(2) -> 4; undo() -> 7; account(6) -> 0; inBundle(0) -> 1; inBundle(1) -> 2; inBundle(2) -> 3; inBundle(3) -> 4");
    }

    private static void putArguments() {
        EDGES.at(24, "there is no place -1", "bundle(0) -> 0; put(-1, 0) -> index; put(-2147483648, 0) -> index");
        EDGES.at(24, "the place 0 is the first", "bundle(0) -> 0; put(0, 0) -> 1; inBundle(0) -> 0; inBundle(1) -> missing");
        EDGES.at(24, "the place 3 is the last", "bundle(0) -> 0; put(3, 0) -> 1; inBundle(3) -> 0; inBundle(2) -> missing");
        EDGES.at(24, "there is no place 4", "bundle(0) -> 0; put(4, 0) -> index; put(2147483647, 0) -> index; account(7) -> 0");
        EDGES.at(24, "there is no commit -1", "bundle(0) -> 0; put(0, -1) -> index; put(0, -2147483648) -> index; account(7) -> 0; inBundle(0) -> missing");
        EDGES.at(24, "there is no commit beyond the last", "bundle(0) -> 0; put(0, 1) -> index; edit(0, 0, 1) -> 1; put(0, 1) -> 1; put(1, 2) -> index; put(1, 2147483647) -> index");
        EDGES.at(24, "the last of 24 commits is 23", FULL, "bundle(0) -> 0; put(0, 23) -> 1; put(1, 24) -> index; inBundle(0) -> 23");
        EDGES.at(24, "a missing place or commit comes before a refusal", "put(4, 0) -> index; put(0, 1) -> index; put(-1, -1) -> index; refusal(false) -> missing");
    }

    private static void putRefused() {
        EDGES.at(24, "9: there is no bundle", KINDS, "put(0, 0) -> refused 9 -1; put(0, 3) -> refused 9 -1; put(3, 4) -> refused 9 -1");
        EDGES.at(24, "9: the bundle for edits is for edits", KINDS, "bundle(0) -> 0; put(0, 3) -> refused 9 0; put(0, 4) -> refused 9 0; put(0, 2) -> 1");
        EDGES.at(24, "9: the bundle for merges is for merges", KINDS, "bundle(1) -> 0; put(0, 2) -> refused 9 1; put(0, 4) -> refused 9 1; put(0, 3) -> 1");
        EDGES.at(24, "9: the bundle for picks is for picks", KINDS, "bundle(2) -> 0; put(0, 2) -> refused 9 2; put(0, 3) -> refused 9 2; put(0, 4) -> 1");
        EDGES.at(24, "9: what the bundle is for now", KINDS, "bundle(0) -> 0; put(0, 1) -> 1; bundle(1) -> 1; put(0, 1) -> refused 9 1; undo() -> 7; put(1, 3) -> refused 9 0");
        EDGES.at(24, "9: without a bundle again", "bundle(0) -> 0; put(0, 0) -> 1; undo() -> 1; undo() -> 0; put(0, 0) -> refused 9 -1");
        EDGES.at(24, "10: a commit at its own place", FOUR, "put(0, 1) -> refused 10 0; put(3, 4) -> refused 10 3");
        EDGES.at(24, "10: a commit at another place", FOUR, "put(3, 1) -> refused 10 0; put(0, 4) -> refused 10 3; put(1, 3) -> refused 10 2; put(2, 2) -> refused 10 1");
        EDGES.at(24, "10: into an empty place", "bundle(0) -> 0; put(2, 0) -> 1; put(0, 0) -> refused 10 2; inBundle(0) -> missing");
        EDGES.at(24, "10: the commit 0, and not an empty place", "bundle(0) -> 0; put(3, 0) -> 1; put(3, 0) -> refused 10 3");
    }

    private static void putPlaces() {
        EDGES.at(24, "up to 4 commits are in it", EDITS, "bundle(0) -> 0; put(3, 4) -> 1; put(1, 2) -> 2; put(0, 1) -> 3; put(2, 3) -> 4; account(7) -> 4");
        EDGES.at(24, "in place of what is there it is no more", FOUR, "put(2, 0) -> 4; inBundle(2) -> 0; inBundle(1) -> 2; inBundle(3) -> 4");
        EDGES.at(24, "what was replaced can be put again", FOUR, "put(2, 0) -> 4; put(0, 3) -> 4; inBundle(0) -> 3; put(1, 1) -> 4");
        EDGES.at(24, "a commit of another branch, or of no line any more", EDITS, "reset(1, 0) -> 4; account(5) -> 4; bundle(0) -> 0; put(0, 3) -> 1");
        EDGES.at(24, "undo empties the place", "bundle(0) -> 0; put(1, 0) -> 1; undo() -> 1; inBundle(1) -> missing; account(7) -> 0; account(6) -> 0; put(1, 0) -> 1");
        EDGES.at(24, "undo brings back what was replaced", FOUR, "put(2, 0) -> 4; undo() -> 7; inBundle(2) -> 3; put(2, 0) -> 4");
    }

    private static void inBundle() {
        EDGES.at(25, "there is no place -1", "inBundle(-1) -> index; bundle(0) -> 0; inBundle(-1) -> index; inBundle(-2147483648) -> index");
        EDGES.at(25, "there is no place 4", "inBundle(4) -> index; bundle(0) -> 0; inBundle(4) -> index; inBundle(2147483647) -> index");
        EDGES.at(25, "no place has a commit without a bundle", "inBundle(0) -> missing; inBundle(3) -> missing");
        EDGES.at(25, "no place has a commit in an empty bundle", "bundle(0) -> 0; inBundle(0) -> missing; inBundle(1) -> missing; inBundle(2) -> missing; inBundle(3) -> missing");
        EDGES.at(25, "the places of a full bundle", FOUR, "inBundle(0) -> 1; inBundle(1) -> 2; inBundle(2) -> 3; inBundle(3) -> 4; inBundle(4) -> index");
        EDGES.at(25, "the commit 0 at a place is not an empty place", "bundle(0) -> 0; put(0, 0) -> 1; inBundle(0) -> 0; inBundle(1) -> missing");
    }

    private static void playArguments() {
        EDGES.at(26, "there is no branch -1", FOUR, "play(-1, 0) -> index; play(-2147483648, 0) -> index");
        EDGES.at(26, "there is no branch beyond the last", FOUR, "play(2, 0) -> index; play(2147483647, 0) -> index; play(0, 0) -> 4");
        EDGES.at(26, "the last of 5 branches is 4", "edit(0, 0, 1) -> 1;", FIVE, "reset(4, 0) -> 1; bundle(0) -> 0; put(0, 1) -> 1; play(5, 0) -> index; play(4, 0) -> 1; tip(4) -> 2");
        EDGES.at(26, "the rule -1 is none", FOUR, "play(0, -1) -> argument; play(0, -2147483648) -> argument");
        EDGES.at(26, "the rule 4 is none", FOUR, "play(0, 4) -> argument; play(0, 2147483647) -> argument; play(0, 3) -> 4");
        EDGES.at(26, "a missing branch comes before a bad rule", "play(1, 4) -> index; play(-1, -1) -> index");
        EDGES.at(26, "a missing branch comes before a refusal", "play(1, 0) -> index; refusal(false) -> missing");
        EDGES.at(26, "a bad rule comes before a refusal", "play(0, 4) -> argument; play(0, -1) -> argument; refusal(false) -> missing");
    }

    private static void play() {
        EDGES.at(26, "a full bundle: 4 are picked", FOUR, "play(0, 0) -> 4; account(0) -> 9; account(4) -> 4; tip(0) -> 8; tip(1) -> 4; write(8) -> \"8 p: 1 2 3 4 0 0\"; commitOf(5, 1) -> 0; commitOf(8, 1) -> 7");
        EDGES.at(26, "one at the first place alone", EDITS, "bundle(0) -> 0; put(0, 2) -> 1; play(0, 0) -> 1; write(5) -> \"5 p: 0 2 0 0 0 0\"");
        EDGES.at(26, "one at the last place alone", EDITS, "bundle(0) -> 0; put(3, 2) -> 1; play(0, 0) -> 1; tip(0) -> 5");
        EDGES.at(26, "by the order of the places, not of the numbers", TWO, "put(0, 2) -> 1; put(1, 1) -> 2; play(0, 2) -> 2; amount(3, 0) -> 20; amount(4, 0) -> 10");
        EDGES.at(26, "by the order of the places, not of the puts", TWO, "put(3, 2) -> 1; put(1, 1) -> 2; play(0, 0) -> 2; amount(3, 0) -> 10; amount(4, 0) -> 20");
        EDGES.at(26, "the bundle stays as it is", FOUR, "play(0, 0) -> 4; account(6) -> 0; account(7) -> 4; inBundle(0) -> 1; inBundle(3) -> 4; fork(0) -> 2; reset(2, 0) -> 8; play(2, 0) -> 4");
        EDGES.at(26, "a bundle of merges", KINDS, "bundle(1) -> 0; put(1, 3) -> 1; reset(0, 0) -> 4; play(0, 0) -> 1; write(5) -> \"5 p: 0 2 0 0 0 0\"");
        EDGES.at(26, "a bundle of picks", KINDS, "edit(0, 1, 7) -> 5; revert(0, 5, 0) -> 6; bundle(2) -> 0; put(1, 6) -> 1; reset(0, 5) -> 6; play(0, 0) -> 1; commitOf(7, 0) -> 2; amount(7, 1) -> 0");
        EDGES.at(26, "a commit in no line any more", FOUR, "reset(1, 0) -> 4; account(5) -> 4; play(0, 0) -> 4; account(5) -> 4");
        EDGES.at(26, "it is one change", FOUR, "play(0, 0) -> 4; account(10) -> 8; undo() -> 7; account(0) -> 5; tip(0) -> 0; account(4) -> 0; inBundle(2) -> 3");
    }

    private static void playRefused() {
        EDGES.at(26, "11: there is none: -1", "play(0, 0) -> refused 11 -1; play(0, 3) -> refused 11 -1");
        EDGES.at(26, "11: an empty one for edits", "bundle(0) -> 0; play(0, 0) -> refused 11 0");
        EDGES.at(26, "11: an empty one for merges", "bundle(1) -> 0; play(0, 1) -> refused 11 1");
        EDGES.at(26, "11: an empty one for picks", "bundle(2) -> 0; play(0, 2) -> refused 11 2");
        EDGES.at(26, "11: an empty one in place of a full one", FOUR, "bundle(1) -> 4; play(0, 0) -> refused 11 1");
        EDGES.at(26, "11: with 24 commits", FULL, "play(0, 0) -> refused 11 -1; bundle(2) -> 0; play(0, 0) -> refused 11 2");
        EDGES.at(26, "4: the tip has it already", FOUR, "play(1, 0) -> refused 4 1; put(0, 0) -> 4; play(0, 0) -> refused 4 0");
        EDGES.at(26, "4 comes before 1", FULL, "bundle(0) -> 0; put(0, 5) -> 1; play(0, 0) -> refused 4 5");
        EDGES.at(26, "5: a conflict", TWO, "put(0, 2) -> 1; play(0, 0) -> refused 5 0; play(0, 1) -> refused 7 0; play(0, 2) -> 1");
        EDGES.at(26, "7: nothing would be otherwise", TWO, "put(0, 1) -> 1; play(0, 0) -> 1; play(0, 0) -> refused 7 3; play(0, 2) -> refused 7 3");
        EDGES.at(26, "1: with 24 commits", "fork(0) -> 1; edit(1, 0, 7) -> 1;", Edges.fill(2), "bundle(0) -> 0; put(2, 1) -> 1; play(0, 0) -> refused 1 24; tip(0) -> 23");
    }

    private static void playWholeOrNot() {
        EDGES.at(26, "not at all, as the second one is in conflict", TWO, "put(0, 1) -> 1; edit(1, 0, 5) -> 3; edit(1, 0, 6) -> 4; put(1, 4) -> 2; play(0, 0) -> refused 5 0; account(0) -> 5; tip(0) -> 0; account(4) -> 0");
        EDGES.at(26, "not at all, as the tip has the fourth one", FOUR, "put(3, 0) -> 4; play(0, 0) -> refused 4 0; account(0) -> 5; tip(0) -> 0; account(4) -> 0; account(7) -> 4");
        EDGES.at(26, "not at all, as the second one changes nothing: the tip is the first pick", TWO, "edit(1, 0, 0) -> 3; put(0, 1) -> 1; edit(1, 0, 10) -> 4; put(1, 4) -> 2; play(0, 0) -> refused 7 5; account(0) -> 5; tip(0) -> 0");
        EDGES.at(26, "2 fit, with 22 commits", "fork(0) -> 1; edit(1, 0, 7) -> 1; edit(1, 1, 8) -> 2;", Edges.fill(3, 21), "bundle(0) -> 0; put(0, 1) -> 1; put(3, 2) -> 2; play(0, 0) -> 2; account(0) -> 24; tip(0) -> 23");
        EDGES.at(26, "1: 2 do not fit, with 23 commits", "fork(0) -> 1; edit(1, 0, 7) -> 1; edit(1, 1, 8) -> 2;", Edges.fill(3, 22), "bundle(0) -> 0; put(0, 1) -> 1; put(3, 2) -> 2; play(0, 0) -> refused 1 24; account(0) -> 23; tip(0) -> 22; account(4) -> 0");
        EDGES.at(26, "the first one that cannot be picked decides", TWO, "put(0, 2) -> 1; put(1, 0) -> 2; play(0, 0) -> refused 5 0; play(0, 2) -> refused 4 0");
        EDGES.at(26, "a refused one is no change", FOUR, "play(1, 0) -> refused 4 1; account(10) -> 8; undo() -> 7; account(7) -> 3");
    }
}
