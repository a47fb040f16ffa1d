/** The boundaries of promises 16 to 22: lines of branches, blunders, blame and tastes. */
public final class LineEdgeTests {
    private static final Edges EDGES = new Edges();
    private static final String FULL = Edges.fill(1);
    private static final String FIVE = "fork(0) -> 1; fork(0) -> 2; fork(0) -> 3; fork(0) -> 4;";
    // The merge 5 has the line 5 4 1 0; the commits 2 and 3 are its ancestors by the second parent.
    private static final String MERGED =
            "edit(0, 0, 10) -> 1; fork(0) -> 1; edit(1, 1, 20) -> 2; edit(1, 1, 30) -> 3; edit(0, 3, 40) -> 4; merge(0, 1, 0) -> 5;";

    public static void main(String[] args) {
        onLine();
        halveArguments();
        halveTip();
        halveLooks();
        firstBad();
        firstBadCommits();
        blame();
        taste();
        tasteBits();
        allTastes();
        tastiest();
        EDGES.finish("edges of lines and tastes", 16, 22);
    }

    private static void onLine() {
        EDGES.at(16, "there is no branch -1", "onLine(-1, 0) -> index; onLine(-2147483648, 0) -> index");
        EDGES.at(16, "there is no branch beyond the last", "onLine(1, 0) -> index; fork(0) -> 1; onLine(1, 0) -> 0; onLine(2, 0) -> index; onLine(2147483647, 0) -> index");
        EDGES.at(16, "the last of 5 branches is 4", FIVE, "onLine(4, 0) -> 0; onLine(5, 0) -> index");
        EDGES.at(16, "a missing branch comes before a missing place", "onLine(1, 1) -> index; onLine(-1, -1) -> index");
        EDGES.at(16, "there is no place -1", MERGED, "onLine(0, -1) -> missing; onLine(0, -2147483648) -> missing");
        EDGES.at(16, "the place 0 is the tip", MERGED, "onLine(0, 0) -> 5; onLine(1, 0) -> 3");
        EDGES.at(16, "the last place is the commit 0, and none is beyond", MERGED, "onLine(0, 3) -> 0; onLine(0, 4) -> missing; onLine(0, 2147483647) -> missing");
        EDGES.at(16, "the line of the commit 0 has one place", "onLine(0, 0) -> 0; onLine(0, 1) -> missing");
        EDGES.at(16, "a line of 24 commits", FULL, "onLine(0, 0) -> 23; onLine(0, 22) -> 1; onLine(0, 23) -> 0; onLine(0, 24) -> missing; onLine(0, 25) -> missing");
        EDGES.at(16, "second parents are in no line", MERGED, "onLine(0, 1) -> 4; onLine(0, 2) -> 1; onLine(1, 1) -> 2; onLine(1, 2) -> 1; onLine(1, 3) -> 0");
        EDGES.at(16, "the line ends with a tip that was reset", MERGED, "reset(0, 1) -> 5; onLine(0, 0) -> 1; onLine(0, 1) -> 0; onLine(0, 2) -> missing; onLine(0, 3) -> missing");
    }

    private static void halveArguments() {
        String line = "edit(0, 3, 50) -> 1;";
        EDGES.at(17, "there is no branch -1", line, "halve(-1, 3, 10, false) -> index; halve(-2147483648, 3, 10, true) -> index");
        EDGES.at(17, "there is no branch beyond the last", line, "halve(1, 3, 10, false) -> index; fork(0) -> 1; halve(1, 3, 10, false) -> 1; halve(2, 3, 10, true) -> index; halve(2147483647, 3, 10, true) -> index");
        EDGES.at(17, "the last of 5 branches is 4", FIVE, "edit(4, 0, 7) -> 1; halve(4, 0, 0, false) -> 1; halve(5, 0, 0, false) -> index");
        EDGES.at(17, "there is no ingredient -1", line, "halve(0, -1, 10, false) -> index; halve(0, -2147483648, 10, false) -> index");
        EDGES.at(17, "the last ingredient is 5", "edit(0, 5, 9) -> 1; halve(0, 5, 8, false) -> 1; halve(0, 6, 8, false) -> index; halve(0, 2147483647, 8, false) -> index");
        EDGES.at(17, "a limit of -1 is none", line, "halve(0, 3, -1, false) -> argument; halve(0, 3, -1, true) -> argument; halve(0, 3, -2147483648, false) -> argument");
        EDGES.at(17, "a limit of 0 is the least", line, "halve(0, 3, 0, false) -> 1; halve(0, 3, 0, true) -> 0");
        EDGES.at(17, "a limit of 99 is the greatest", "edit(0, 3, 99) -> 1; halve(0, 3, 99, false) -> missing; halve(0, 3, 98, false) -> 1");
        EDGES.at(17, "a limit of 100 is none", line, "halve(0, 3, 100, false) -> argument; halve(0, 3, 100, true) -> argument; halve(0, 3, 2147483647, false) -> argument");
        EDGES.at(17, "a missing branch comes before a bad limit", line, "halve(1, 3, 100, false) -> index; halve(-1, 3, -1, false) -> index");
        EDGES.at(17, "a missing ingredient comes before a bad limit", line, "halve(0, 6, 100, false) -> index; halve(0, -1, -1, false) -> index");
        EDGES.at(17, "a bad limit comes before a tip that is not bad", "halve(0, 0, 100, false) -> argument; halve(0, 0, -1, true) -> argument");
        EDGES.at(17, "a missing ingredient comes before a tip that is not bad", "halve(0, 6, 0, false) -> index; halve(1, 0, 0, false) -> index");
    }

    private static void halveTip() {
        EDGES.at(17, "the commit 0 is never bad", "halve(0, 0, 0, false) -> missing; halve(0, 5, 0, true) -> missing");
        EDGES.at(17, "an amount that is the limit is not bad", "edit(0, 3, 50) -> 1; halve(0, 3, 50, false) -> missing; halve(0, 3, 50, true) -> missing; halve(0, 3, 49, false) -> 1");
        EDGES.at(17, "an amount of 1 is bad by the limit 0", "edit(0, 3, 1) -> 1; halve(0, 3, 0, false) -> 1; halve(0, 3, 1, false) -> missing");
        EDGES.at(17, "another ingredient of the tip is nothing", "edit(0, 3, 50) -> 1; halve(0, 2, 0, false) -> missing; halve(0, 4, 0, false) -> missing");
        EDGES.at(17, "the tip alone counts, not what is bad behind it", "edit(0, 3, 50) -> 1; edit(0, 3, 10) -> 2; halve(0, 3, 10, false) -> missing; firstBad(0, 3, 10) -> 1");
    }

    private static void halveLooks() {
        EDGES.at(17, "it does not look at the tip and the commit 0", "edit(0, 0, 50) -> 1; halve(0, 0, 49, true) -> 0; halve(0, 0, 49, false) -> 1");
        String three = "edit(0, 0, 50) -> 1; edit(0, 0, 60) -> 2;";
        EDGES.at(17, "it looks at one in the middle, which is bad", three, "halve(0, 0, 49, true) -> 1; halve(0, 0, 49, false) -> 1");
        EDGES.at(17, "it looks at one in the middle, which is not bad", three, "halve(0, 0, 50, true) -> 1; halve(0, 0, 50, false) -> 2");
        String four = three + "edit(0, 0, 70) -> 3;";
        EDGES.at(17, "of two in the middle it looks at the nearer one to the tip first", four, "halve(0, 0, 60, true) -> 1; halve(0, 0, 60, false) -> 3");
        EDGES.at(17, "of two in the middle it looks at the other one, if the nearer one is bad", four, "halve(0, 0, 49, true) -> 2; halve(0, 0, 49, false) -> 1; halve(0, 0, 50, true) -> 2; halve(0, 0, 50, false) -> 2");
        EDGES.at(17, "a line of 24: all but the commit 0 are bad", FULL, "halve(0, 5, 0, false) -> 1; halve(0, 5, 0, true) -> 5");
        EDGES.at(17, "a line of 24: the tip alone is bad", FULL, "halve(0, 5, 22, false) -> 23; halve(0, 5, 22, true) -> 4; halve(0, 5, 23, false) -> missing");
        // The places 11 (the commit 12), 5 (18), 8 (15), 9 (14), 10 (13) are looked at.
        EDGES.at(17, "a line of 24: the middle is not bad, all nearer ones are", FULL, "halve(0, 5, 12, false) -> 13; halve(0, 5, 12, true) -> 5");
        EDGES.at(17, "up and down: it can tell another commit than looking at all", "edit(0, 0, 50) -> 1; edit(0, 0, 1) -> 2; edit(0, 0, 2) -> 3; edit(0, 0, 80) -> 4;",
                "halve(0, 0, 9, false) -> 4; halve(0, 0, 9, true) -> 2; firstBad(0, 0, 9) -> 1");
        EDGES.at(17, "second parents are not looked at", MERGED, "halve(0, 1, 10, false) -> 5; halve(0, 1, 10, true) -> 1; halve(1, 1, 10, false) -> 2; halve(1, 1, 10, true) -> 2");
    }

    private static void firstBad() {
        String line = "edit(0, 3, 50) -> 1;";
        EDGES.at(18, "there is no branch -1", line, "firstBad(-1, 3, 10) -> index; firstBad(-2147483648, 3, 10) -> index");
        EDGES.at(18, "there is no branch beyond the last", line, "firstBad(1, 3, 10) -> index; fork(0) -> 1; firstBad(1, 3, 10) -> 1; firstBad(2, 3, 10) -> index; firstBad(2147483647, 3, 10) -> index");
        EDGES.at(18, "the last of 5 branches is 4", FIVE, "edit(4, 0, 7) -> 1; firstBad(4, 0, 0) -> 1; firstBad(5, 0, 0) -> index");
        EDGES.at(18, "there is no ingredient -1", line, "firstBad(0, -1, 10) -> index; firstBad(0, -2147483648, 10) -> index");
        EDGES.at(18, "the last ingredient is 5", "edit(0, 5, 9) -> 1; firstBad(0, 5, 8) -> 1; firstBad(0, 6, 8) -> index; firstBad(0, 2147483647, 8) -> index");
        EDGES.at(18, "a limit of -1 is none", line, "firstBad(0, 3, -1) -> argument; firstBad(0, 3, -2147483648) -> argument");
        EDGES.at(18, "a limit of 0 is the least", line, "firstBad(0, 3, 0) -> 1");
        EDGES.at(18, "a limit of 99 is the greatest", "edit(0, 3, 99) -> 1; firstBad(0, 3, 99) -> missing; firstBad(0, 3, 98) -> 1");
        EDGES.at(18, "a limit of 100 is none", line, "firstBad(0, 3, 100) -> argument; firstBad(0, 3, 2147483647) -> argument");
        EDGES.at(18, "a missing branch or ingredient comes before a bad limit", line, "firstBad(1, 3, 100) -> index; firstBad(0, 6, 100) -> index; firstBad(0, -1, -1) -> index");
        EDGES.at(18, "a bad limit comes before no bad commit", "firstBad(0, 0, 100) -> argument; firstBad(0, 0, -1) -> argument");
        EDGES.at(18, "a missing branch or ingredient comes before no bad commit", "firstBad(1, 0, 0) -> index; firstBad(0, 6, 0) -> index");
    }

    private static void firstBadCommits() {
        EDGES.at(18, "none is bad in the line of the commit 0", "firstBad(0, 0, 0) -> missing; firstBad(0, 5, 99) -> missing");
        EDGES.at(18, "none is bad if the greatest amount is the limit", "edit(0, 3, 50) -> 1; edit(0, 3, 10) -> 2; firstBad(0, 3, 50) -> missing; firstBad(0, 3, 49) -> 1");
        EDGES.at(18, "the tip need not be bad", "edit(0, 3, 50) -> 1; edit(0, 3, 10) -> 2; firstBad(0, 3, 10) -> 1; edit(0, 3, 0) -> 3; firstBad(0, 3, 0) -> 1");
        EDGES.at(18, "the tip alone is bad", "edit(0, 3, 10) -> 1; edit(0, 3, 50) -> 2; firstBad(0, 3, 10) -> 2; firstBad(0, 3, 9) -> 1");
        EDGES.at(18, "the farthest of 23 bad ones", FULL, "firstBad(0, 5, 0) -> 1; firstBad(0, 5, 22) -> 23; firstBad(0, 5, 23) -> missing");
        EDGES.at(18, "the farthest one, whatever is between", "edit(0, 0, 50) -> 1; edit(0, 0, 1) -> 2; edit(0, 0, 99) -> 3; firstBad(0, 0, 9) -> 1; firstBad(0, 0, 50) -> 3");
        EDGES.at(18, "second parents are not of the line", MERGED, "firstBad(0, 1, 10) -> 5; firstBad(1, 1, 10) -> 2");
    }

    private static void blame() {
        EDGES.at(19, "there is no branch -1", "blame(-1, 0) -> index; blame(-2147483648, 0) -> index");
        EDGES.at(19, "there is no branch beyond the last", "blame(1, 0) -> index; fork(0) -> 1; blame(1, 0) -> 0; blame(2, 0) -> index; blame(2147483647, 0) -> index");
        EDGES.at(19, "the last of 5 branches is 4", FIVE, "edit(4, 0, 7) -> 1; blame(4, 0) -> 1; blame(3, 0) -> 0; blame(5, 0) -> index");
        EDGES.at(19, "there is no ingredient -1", "blame(0, -1) -> index; blame(0, -2147483648) -> index");
        EDGES.at(19, "the last ingredient is 5", "edit(0, 5, 9) -> 1; blame(0, 5) -> 1; blame(0, 4) -> 0; blame(0, 6) -> index; blame(0, 2147483647) -> index");
        EDGES.at(19, "0 if there is none in the line of the commit 0", "blame(0, 0) -> 0; blame(0, 5) -> 0");
        EDGES.at(19, "0 if no commit of the line changed it", FULL, "blame(0, 0) -> 0; blame(0, 4) -> 0; blame(0, 5) -> 23");
        EDGES.at(19, "the farthest one can be the nearest that differs", "edit(0, 0, 9) -> 1;", Edges.fill(2), "blame(0, 0) -> 1");
        EDGES.at(19, "the nearest of several", "edit(0, 0, 9) -> 1; edit(0, 0, 8) -> 2; edit(0, 1, 1) -> 3; blame(0, 0) -> 2; blame(0, 1) -> 3");
        EDGES.at(19, "a change back to 0 counts", "edit(0, 0, 9) -> 1; edit(0, 0, 0) -> 2; edit(0, 1, 1) -> 3; blame(0, 0) -> 2");
        EDGES.at(19, "a merge is it if it differs from its first parent", MERGED, "blame(0, 1) -> 5; blame(1, 1) -> 3");
        EDGES.at(19, "a merge is not it if it differs from its second parent alone", MERGED, "blame(0, 3) -> 4; blame(0, 0) -> 1; blame(1, 3) -> 0");
        EDGES.at(19, "a pick is it", MERGED, "revert(0, 1, 0) -> 6; blame(0, 0) -> 6; pick(1, 4, 0) -> 7; blame(1, 3) -> 7");
        EDGES.at(19, "what another branch changed is nothing", MERGED, "reset(0, 1) -> 5; blame(0, 1) -> 0; blame(0, 3) -> 0; blame(0, 0) -> 1");
    }

    private static void taste() {
        EDGES.at(20, "there is no commit -1", "taste(-1) -> index; taste(-2147483648) -> index");
        EDGES.at(20, "there is no commit beyond the last", "taste(1) -> index; edit(0, 0, 1) -> 1; taste(1) -> 0.0625; taste(2) -> index; taste(2147483647) -> index");
        EDGES.at(20, "the last of 24 commits is 23", FULL, "taste(23) -> " + 17.25f / 24.0f + "; taste(24) -> index");
        EDGES.at(20, "0.0 without amounts", "taste(0) -> 0.0; edit(0, 0, 1) -> 1; edit(0, 0, 0) -> 2; taste(2) -> 0.0");
        EDGES.at(20, "the least above 0.0", "edit(0, 0, 1) -> 1; taste(1) -> 0.0625");
        EDGES.at(20, "the greatest", "edit(0, 5, 99) -> 1; taste(1) -> 0.7425");
        EDGES.at(20, "all amounts 99", "edit(0, 0, 99) -> 1; edit(0, 1, 99) -> 2; edit(0, 2, 99) -> 3; edit(0, 3, 99) -> 4; edit(0, 4, 99) -> 5; edit(0, 5, 99) -> 6; taste(6) -> " + 259.875f / 595.0f);
        EDGES.at(20, "each ingredient is times 1 more than its number", "edit(0, 0, 3) -> 1; taste(1) -> 0.09375; reset(0, 0) -> 1; edit(0, 1, 3) -> 2; taste(2) -> 0.1875; reset(0, 0) -> 2; edit(0, 2, 3) -> 3; taste(3) -> 0.28125",
                "reset(0, 0) -> 3; edit(0, 3, 3) -> 4; taste(4) -> 0.375; reset(0, 0) -> 4; edit(0, 4, 3) -> 5; taste(5) -> 0.46875; reset(0, 0) -> 5; edit(0, 5, 3) -> 6; taste(6) -> 0.5625");
        EDGES.at(20, "the amounts of a merge count as those of an edit", MERGED, "taste(5) -> " + (1.25f + 7.5f + 20.0f) / 81.0f);
    }

    private static void tasteBits() {
        EDGES.at(21, "there is no commit -1", "tasteBits(-1) -> index; tasteBits(-2147483648) -> index");
        EDGES.at(21, "there is no commit beyond the last", "tasteBits(1) -> index; edit(0, 0, 1) -> 1; tasteBits(1) -> 1031798784; tasteBits(2) -> index; tasteBits(2147483647) -> index");
        EDGES.at(21, "the last of 24 commits is 23", FULL, "tasteBits(23) -> " + Float.floatToIntBits(17.25f / 24.0f) + "; tasteBits(24) -> index");
        EDGES.at(21, "0.0 has the bits 0", "tasteBits(0) -> 0");
        EDGES.at(21, "0.5 has the bits 3f000000", "edit(0, 4, 4) -> 1; taste(1) -> 0.5; tasteBits(1) -> " + 0x3f000000);
        EDGES.at(21, "0.25 has the bits 3e800000", "edit(0, 2, 2) -> 1; taste(1) -> 0.25; tasteBits(1) -> " + 0x3e800000);
        EDGES.at(21, "0.125 has the bits 3e000000", "edit(0, 1, 1) -> 1; taste(1) -> 0.125; tasteBits(1) -> " + 0x3e000000);
        EDGES.at(21, "0.0625 has the bits 3d800000", "edit(0, 0, 1) -> 1; taste(1) -> 0.0625; tasteBits(1) -> " + 0x3d800000);
        EDGES.at(21, "the greatest taste", "edit(0, 5, 99) -> 1; tasteBits(1) -> " + Float.floatToIntBits(0.7425f));
        EDGES.at(21, "a fraction that was rounded", "edit(0, 0, 2) -> 1; taste(1) -> 0.083333336; tasteBits(1) -> " + Float.floatToIntBits(0.25f / 3.0f));
    }

    /** Each amount of each ingredient alone, and many rows of amounts. */
    private static void allTastes() {
        boolean isTasteRight = true;
        boolean isBitsRight = true;
        int[] row = new int[6];
        int next = 1;
        for (int round = 0; round < 300; round++) {
            RecipeForests forests = new RecipeForests();
            java.util.Arrays.fill(row, 0);
            for (int commit = 1; commit <= 23; commit++) {
                next = next * 1103515245 + 12345;
                int ingredient = round < 30 ? round % 6 : (next >>> 16) % 6;
                int amount = round < 30 ? round / 6 * 22 + commit - 1 : (next >>> 20) % 100;
                if (amount > 99 || row[ingredient] == amount) {
                    amount = row[ingredient] == 50 ? 51 : 50;
                }
                row[ingredient] = amount;
                int made = forests.edit(0, ingredient, amount);
                float due = due(row);
                isTasteRight &= forests.taste(made) == due;
                isBitsRight &= forests.tasteBits(made) == Float.floatToIntBits(due);
            }
        }
        EDGES.due(20, "the taste of many rows of amounts", isTasteRight);
        EDGES.due(21, "the bits of the taste of many rows of amounts", isBitsRight);
    }

    private static float due(int[] row) {
        float taste = 0.0f;
        int sum = 0;
        for (int i = 0; i < 6; i++) {
            taste += (float) row[i] * (i + 1) / 8.0f;
            sum += row[i];
        }
        return taste / (float) (1 + sum);
    }

    private static void tastiest() {
        EDGES.at(22, "there is no branch -1", "tastiest(-1) -> index; tastiest(-2147483648) -> index");
        EDGES.at(22, "there is no branch beyond the last", "tastiest(1) -> index; fork(0) -> 1; tastiest(1) -> 0; tastiest(2) -> index; tastiest(2147483647) -> index");
        EDGES.at(22, "the last of 5 branches is 4", FIVE, "edit(4, 0, 1) -> 1; tastiest(4) -> 1; tastiest(3) -> 0; tastiest(5) -> index");
        EDGES.at(22, "the commit 0 in its line", "tastiest(0) -> 0");
        EDGES.at(22, "the tip", "edit(0, 0, 1) -> 1; edit(0, 5, 1) -> 2; tastiest(0) -> 2");
        EDGES.at(22, "the one behind the commit 0", "edit(0, 5, 99) -> 1; edit(0, 0, 50) -> 2; edit(0, 5, 0) -> 3; edit(0, 0, 0) -> 4; tastiest(0) -> 1");
        EDGES.at(22, "of two the farther one from the tip", "edit(0, 5, 50) -> 1; edit(0, 5, 0) -> 2; edit(0, 5, 50) -> 3; tastiest(0) -> 1");
        EDGES.at(22, "of three the farthest one from the tip", "edit(0, 0, 9) -> 1; edit(0, 0, 0) -> 2; edit(0, 5, 50) -> 3; edit(0, 5, 0) -> 4; edit(0, 5, 50) -> 5; edit(0, 5, 0) -> 6; edit(0, 5, 50) -> 7; tastiest(0) -> 3");
        EDGES.at(22, "the last of 24", FULL, "tastiest(0) -> 23; taste(22) -> " + 16.5f / 23.0f);
        EDGES.at(22, "a second parent is not of the line", "fork(0) -> 1; edit(0, 0, 1) -> 1; edit(1, 5, 99) -> 2; edit(1, 0, 2) -> 3; merge(0, 1, 1) -> 4; tastiest(0) -> 4; tastiest(1) -> 2; edit(0, 5, 0) -> 5; tastiest(0) -> 4");
    }
}
