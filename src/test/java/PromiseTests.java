/** Each promise by its number: ordinary inputs, the edges that the document names, and wrong inputs. */
public final class PromiseTests {
    private static final String INDEX = " -> throws IndexOutOfBoundsException;";
    private static final String ARGUMENT = " -> throws IllegalArgumentException;";
    private static final String REFUSED = " -> throws UnsupportedOperationException;";
    private static final String STATE = " -> throws IllegalStateException;";
    private static final String MISSING = " -> throws NoSuchElementException;";

    // Two branches that differ in 0 and 1: tips 3 (11 20) and 4 (10 25), base 2 (10 20).
    private static final String TWO_BRANCHES =
            "edit(0, 0, 10) -> 1; edit(0, 1, 20) -> 2; fork(0) -> 1; edit(0, 0, 11) -> 3; edit(1, 1, 25) -> 4;";
    // Conflicts in 2 (30 against 41, ground 5) and 4 (7 against 0, ground 9): tips 4 and 6, base 2.
    private static final String CONFLICTS =
            "edit(0, 2, 5) -> 1; edit(0, 4, 9) -> 2; fork(0) -> 1; edit(0, 2, 30) -> 3; edit(0, 4, 7) -> 4;"
            + "edit(1, 2, 41) -> 5; edit(1, 4, 0) -> 6;";

    private static final Script SCRIPT = new Script();

    public static void main(String[] args) {
        aNewObject();
        edit();
        fork();
        reset();
        tip();
        amount();
        commitOf();
        merge();
        pick();
        revert();
        conflicts();
        isIn();
        bases();
        difference();
        onLine();
        halve();
        firstBad();
        blame();
        taste();
        tasteBits();
        tastiest();
        bundle();
        put();
        inBundle();
        play();
        line();
        character();
        append();
        read();
        readOrders();
        errorPosition();
        refusal();
        account();
        isWell();
        meanTaste();
        editShare();
        undo();
        save();
        restore();
        SCRIPT.finish("the promises");
    }

    private static void run(int promise, String... parts) {
        SCRIPT.run("promise " + promise, parts);
    }

    /** Edits of the branch 0 from the commit given on, to 23, which is the last one that is kept. */
    private static String fill(int from) {
        StringBuilder text = new StringBuilder();
        for (int commit = from; commit <= 23; commit++) {
            text.append("edit(0, 5, ").append(commit).append(") -> ").append(commit).append(';');
        }
        return text.toString();
    }

    private static void aNewObject() {
        run(1, "tip(0) -> 0; tip(1)" + INDEX, "amount(0, 0) -> 0; amount(0, 5) -> 0; amount(1, 0)" + INDEX,
                "account(0) -> 1; account(1) -> 1; account(2) -> 1; account(3) -> 0; account(4) -> 0;",
                "account(5) -> 0; account(6) -> -1; account(7) -> 0; account(8) -> 0; account(9) -> 0; account(10) -> 0;",
                "commitOf(0, 0) -> 0; commitOf(0, 1) -> -1; commitOf(0, 2) -> -1; isWell() -> true",
                "inBundle(0)" + MISSING, "refusal(false)" + MISSING, "errorPosition() -> -1; character(0)" + INDEX,
                "undo()" + STATE, "restore()" + STATE, "meanTaste() -> 0.0; editShare() -> 1.0");
    }

    private static void edit() {
        run(2, "edit(0, 5, 99) -> 1; tip(0) -> 1; amount(1, 5) -> 99; amount(1, 0) -> 0; amount(0, 5) -> 0;",
                "edit(0, 0, 1) -> 2; amount(2, 5) -> 99; amount(2, 0) -> 1; edit(0, 5, 0) -> 3; amount(3, 5) -> 0;",
                "commitOf(3, 0) -> 0; commitOf(3, 1) -> 2; commitOf(3, 2) -> -1; account(10) -> 3");
        run(2, "edit(-1, 0, 1)" + INDEX, "edit(1, 0, 1)" + INDEX, "edit(0, -1, 1)" + INDEX, "edit(0, 6, 1)" + INDEX,
                "edit(2147483647, -2147483648, 100)" + INDEX, "edit(0, 6, -1)" + INDEX,
                "edit(0, 0, -1)" + ARGUMENT, "edit(0, 0, 100)" + ARGUMENT, "edit(0, 0, -2147483648)" + ARGUMENT,
                "refusal(false)" + MISSING, "edit(0, 3, 0)" + REFUSED, "refusal(false) -> 2; refusal(true) -> 0",
                "account(0) -> 1; account(10) -> 0; edit(0, 3, 77) -> 1; edit(0, 3, 77)" + REFUSED,
                "refusal(false) -> 2; refusal(true) -> 77; account(0) -> 2; tip(0) -> 1");
        run(2, fill(1), "edit(0, 5, 23)" + REFUSED, "refusal(false) -> 2; refusal(true) -> 23",
                "edit(0, 5, 24)" + REFUSED, "refusal(false) -> 1; refusal(true) -> 24; tip(0) -> 23; account(0) -> 24",
                "edit(0, 5, 100)" + ARGUMENT, "undo() -> 7; edit(0, 0, 3) -> 23; amount(23, 5) -> 22");
    }

    private static void fork() {
        run(3, "edit(0, 0, 4) -> 1; fork(0) -> 1; tip(1) -> 1; edit(1, 0, 5) -> 2; tip(0) -> 1; fork(1) -> 2; tip(2) -> 2",
                "account(0) -> 3; account(1) -> 3; account(10) -> 4");
        run(3, "fork(1)" + INDEX, "fork(-1)" + INDEX, "fork(0) -> 1; fork(1) -> 2; fork(0) -> 3; fork(0) -> 4",
                "fork(0)" + REFUSED, "refusal(false) -> 1; refusal(true) -> 5; fork(5)" + INDEX,
                "account(1) -> 5; account(10) -> 4; tip(4) -> 0; undo() -> 3; tip(4)" + INDEX, "fork(3) -> 4");
        run(3, fill(1), "fork(0) -> 1; tip(1) -> 23");
    }

    private static void reset() {
        run(4, "edit(0, 0, 4) -> 1; edit(0, 0, 5) -> 2; reset(0, 1) -> 2; tip(0) -> 1; edit(0, 1, 9) -> 3; commitOf(3, 1) -> 1",
                "reset(0, 2) -> 3; reset(0, 0) -> 2; tip(0) -> 0; amount(2, 0) -> 5; account(0) -> 4; account(10) -> 6");
        run(4, "reset(1, 0)" + INDEX, "reset(0, 1)" + INDEX, "reset(0, -1)" + INDEX, "reset(-1, 0)" + INDEX,
                "reset(0, 0)" + REFUSED, "refusal(false) -> 3; refusal(true) -> 0; edit(0, 0, 1) -> 1; reset(0, 1)" + REFUSED,
                "refusal(false) -> 3; refusal(true) -> 1; account(10) -> 1; reset(0, 24)" + INDEX);
    }

    private static void tip() {
        run(5, TWO_BRANCHES, "tip(0) -> 3; tip(1) -> 4; tip(2)" + INDEX, "tip(-1)" + INDEX, "tip(5)" + INDEX,
                "tip(-2147483648)" + INDEX);
    }

    private static void amount() {
        run(6, TWO_BRANCHES, "amount(4, 0) -> 10; amount(4, 1) -> 25; amount(3, 1) -> 20; amount(0, 1) -> 0",
                "amount(4, 5) -> 0; amount(4, 6)" + INDEX, "amount(4, -1)" + INDEX, "amount(5, 0)" + INDEX,
                "amount(-1, 0)" + INDEX, "amount(24, 0)" + INDEX, "amount(2147483647, 2147483647)" + INDEX);
    }

    private static void commitOf() {
        run(7, TWO_BRANCHES, "edit(1, 2, 7) -> 5; merge(0, 1, 0) -> 6",
                "commitOf(6, 0) -> 1; commitOf(6, 1) -> 3; commitOf(6, 2) -> 5; commitOf(6, 3) -> 2",
                "commitOf(6, 4) -> 6; commitOf(6, 5) -> 5; commitOf(5, 2) -> -1; commitOf(5, 4) -> 4; commitOf(5, 5) -> 4",
                "commitOf(3, 5) -> 3; commitOf(3, 3) -> 1; commitOf(3, 4) -> 3",
                "revert(0, 1, 2) -> 7; commitOf(7, 0) -> 2; commitOf(7, 1) -> 6; commitOf(7, 2) -> -1; commitOf(7, 5) -> 6",
                "commitOf(0, 3) -> 0; commitOf(0, 4) -> 0; commitOf(0, 5) -> 0",
                "commitOf(8, 0)" + INDEX, "commitOf(-1, 9)" + INDEX, "commitOf(0, 6)" + ARGUMENT, "commitOf(0, -1)" + ARGUMENT);
    }

    private static void merge() {
        run(8, TWO_BRANCHES, "merge(0, 1, 0) -> 5; tip(0) -> 5; tip(1) -> 4; amount(5, 0) -> 11; amount(5, 1) -> 25",
                "merge(0, 1, 0)" + REFUSED, "refusal(false) -> 4; refusal(true) -> 4",
                "merge(1, 0, 0) -> 5; tip(1) -> 5; account(0) -> 6; account(10) -> 7",
                "merge(1, 0, 0)" + REFUSED, "refusal(false) -> 4; refusal(true) -> 5");
        run(8, CONFLICTS, "merge(0, 1, 0)" + REFUSED, "refusal(false) -> 5; refusal(true) -> 2; tip(0) -> 4; account(0) -> 7",
                "merge(0, 1, 1) -> 7; amount(7, 2) -> 30; amount(7, 4) -> 7; commitOf(7, 3) -> 0; undo() -> 7",
                "merge(0, 1, 2) -> 7; amount(7, 2) -> 41; amount(7, 4) -> 0; undo() -> 7",
                "merge(0, 1, 3) -> 7; amount(7, 2) -> 35; amount(7, 4) -> 3; undo() -> 7",
                "merge(1, 0, 1) -> 7; amount(7, 2) -> 41; commitOf(7, 1) -> 6; commitOf(7, 2) -> 4");
        // Both sides alike is no conflict, and a merge whose amounts are those of the tip is made all the same.
        run(8, "fork(0) -> 1; edit(0, 0, 9) -> 1; edit(1, 0, 9) -> 2; merge(0, 1, 0) -> 3; amount(3, 0) -> 9",
                "commitOf(3, 3) -> 0; commitOf(3, 0) -> 1");
        run(8, "merge(0, 1, 7)" + INDEX, "merge(1, 0, 7)" + INDEX, "merge(-1, 0, 0)" + INDEX, "merge(0, -1, 0)" + INDEX,
                "merge(0, 0, 4)" + ARGUMENT, "merge(0, 0, -1)" + ARGUMENT, "merge(0, 0, 0)" + REFUSED,
                "refusal(false) -> 4; refusal(true) -> 0; fork(0) -> 1; edit(0, 0, 9) -> 1; merge(0, 1, 0)" + REFUSED,
                "refusal(true) -> 0; merge(1, 0, 3) -> 1; tip(1) -> 1; account(0) -> 2");
        // The conflict comes before the 24 commits, and a merge that makes none needs no room.
        run(8, CONFLICTS, fill(7), "merge(0, 1, 0)" + REFUSED, "refusal(false) -> 5; refusal(true) -> 2; merge(0, 1, 1)" + REFUSED,
                "refusal(false) -> 1; refusal(true) -> 24; merge(0, 0, 1)" + REFUSED, "refusal(false) -> 4; refusal(true) -> 23",
                "reset(1, 4) -> 6; merge(1, 0, 0) -> 23; tip(1) -> 23; account(0) -> 24");
        // The base of a criss-cross is the greatest common one: 3, and not 1.
        run(8, "edit(0, 0, 5) -> 1; fork(0) -> 1; edit(0, 1, 6) -> 2; edit(1, 2, 7) -> 3; fork(0) -> 2; fork(1) -> 3",
                "merge(0, 3, 0) -> 4; merge(1, 2, 0) -> 5; base(4, 5) -> 3; edit(0, 2, 8) -> 6; conflicts(0, 1) -> 0",
                "merge(0, 1, 0) -> 7; amount(7, 2) -> 8");
    }

    private static void pick() {
        run(9, TWO_BRANCHES, "edit(1, 2, 7) -> 5; pick(0, 5, 0) -> 6; amount(6, 2) -> 7; amount(6, 1) -> 20; amount(6, 0) -> 11",
                "tip(0) -> 6; commitOf(6, 0) -> 2; commitOf(6, 1) -> 3; commitOf(6, 2) -> -1; isIn(5, 6) -> false",
                "pick(0, 5, 0)" + REFUSED, "refusal(false) -> 7; refusal(true) -> 6; pick(0, 6, 0)" + REFUSED,
                "refusal(false) -> 4; refusal(true) -> 6; pick(0, 0, 0)" + REFUSED, "refusal(false) -> 4; refusal(true) -> 0",
                "account(10) -> 7");
        run(9, CONFLICTS, "pick(0, 5, 0)" + REFUSED, "refusal(false) -> 5; refusal(true) -> 2; pick(0, 5, 1)" + REFUSED,
                "refusal(false) -> 7; refusal(true) -> 4; pick(0, 5, 3) -> 7; amount(7, 2) -> 35; amount(7, 4) -> 7",
                "undo() -> 7; pick(0, 6, 2) -> 7; amount(7, 4) -> 0; amount(7, 2) -> 30");
        // The ground of a merge that is picked is its first parent; a commit in no line can be picked.
        run(9, TWO_BRANCHES, "merge(0, 1, 0) -> 5; reset(0, 0) -> 5; pick(0, 5, 0)" + REFUSED,
                "refusal(false) -> 5; refusal(true) -> 1; pick(0, 5, 2) -> 6; amount(6, 0) -> 0; amount(6, 1) -> 25",
                "pick(0, 1, 0) -> 7; amount(7, 0) -> 10; amount(7, 1) -> 25");
        run(9, "pick(0, 1, 9)" + INDEX, "pick(1, 0, 9)" + INDEX, "pick(-1, 0, 0)" + INDEX, "pick(0, -1, 0)" + INDEX,
                "pick(0, 0, 4)" + ARGUMENT, "pick(0, 0, -1)" + ARGUMENT, "refusal(false)" + MISSING);
        run(9, CONFLICTS, fill(7), "pick(0, 5, 0)" + REFUSED, "refusal(false) -> 5; pick(0, 5, 1)" + REFUSED, "refusal(false) -> 7",
                "refusal(true) -> 23; pick(0, 5, 2)" + REFUSED, "refusal(false) -> 1; refusal(true) -> 24",
                "pick(0, 7, 2)" + REFUSED, "refusal(false) -> 4; refusal(true) -> 7; account(0) -> 24");
    }

    private static void revert() {
        run(10, TWO_BRANCHES, "revert(0, 1, 0)" + REFUSED, "refusal(false) -> 5; refusal(true) -> 0; revert(0, 2, 0) -> 5",
                "amount(5, 0) -> 11; amount(5, 1) -> 0; commitOf(5, 0) -> 2; commitOf(5, 1) -> 3; commitOf(5, 2) -> -1",
                "revert(0, 2, 0)" + REFUSED, "refusal(false) -> 7; refusal(true) -> 5; tip(0) -> 5",
                "revert(0, 3, 0) -> 6; amount(6, 0) -> 10; revert(0, 6, 0) -> 7; amount(7, 0) -> 11");
        run(10, TWO_BRANCHES, "revert(0, 0, 0)" + REFUSED, "refusal(false) -> 6; refusal(true) -> 0; revert(0, 4, 0)" + REFUSED,
                "refusal(false) -> 8; refusal(true) -> 4; revert(0, 1, 1)" + REFUSED, "refusal(false) -> 7; refusal(true) -> 3",
                "revert(0, 1, 2) -> 5; amount(5, 0) -> 0; amount(5, 1) -> 20; undo() -> 5; revert(0, 1, 3) -> 5; amount(5, 0) -> 5");
        // A merge is reverted to its first parent; an ancestor by the second parent can be reverted, too.
        run(10, TWO_BRANCHES, "merge(0, 1, 0) -> 5; revert(0, 5, 0) -> 6; amount(6, 0) -> 11; amount(6, 1) -> 20; undo() -> 6",
                "revert(0, 4, 0) -> 6; amount(6, 1) -> 20; amount(6, 0) -> 11");
        run(10, "revert(0, 1, 9)" + INDEX, "revert(1, 0, 9)" + INDEX, "revert(-1, 0, 0)" + INDEX, "revert(0, -1, 0)" + INDEX,
                "revert(0, 0, 4)" + ARGUMENT, "revert(0, 0, -1)" + ARGUMENT, "refusal(false)" + MISSING);
        run(10, CONFLICTS, fill(7), "revert(0, 1, 0)" + REFUSED, "refusal(false) -> 5; refusal(true) -> 2; revert(0, 1, 1)" + REFUSED,
                "refusal(false) -> 7; refusal(true) -> 23; revert(0, 1, 2)" + REFUSED, "refusal(false) -> 1; refusal(true) -> 24",
                "revert(0, 5, 2)" + REFUSED, "refusal(false) -> 8; refusal(true) -> 5");
    }

    private static void conflicts() {
        run(11, CONFLICTS, "conflicts(0, 1) -> 2; conflicts(1, 0) -> 2; conflicts(0, 0) -> 0; fork(0) -> 2; edit(2, 2, 41) -> 7",
                "conflicts(2, 1) -> 1; conflicts(2, 0) -> 0; conflicts(0, 2) -> 0; account(0) -> 8; refusal(false)" + MISSING,
                "conflicts(0, 3)" + INDEX, "conflicts(3, 0)" + INDEX, "conflicts(-1, 0)" + INDEX, "conflicts(0, -1)" + INDEX);
        run(11, TWO_BRANCHES, "conflicts(0, 1) -> 0");
    }

    private static void isIn() {
        run(12, TWO_BRANCHES, "isIn(2, 3) -> true; isIn(3, 2) -> false; isIn(3, 3) -> true; isIn(3, 4) -> false; isIn(0, 4) -> true",
                "merge(0, 1, 0) -> 5; isIn(4, 5) -> true; isIn(3, 5) -> true; isIn(5, 4) -> false",
                "isIn(6, 0)" + INDEX, "isIn(0, 6)" + INDEX, "isIn(-1, 0)" + INDEX, "isIn(0, -1)" + INDEX);
    }

    private static void bases() {
        String[] names = {"base", "baseAgain"};
        for (int i = 0; i < names.length; i++) {
            String name = names[i];
            run(13 + i, TWO_BRANCHES, name + "(3, 4) -> 2;" + name + "(4, 3) -> 2;" + name + "(4, 4) -> 4;" + name + "(1, 4) -> 1;",
                    name + "(4, 1) -> 1;" + name + "(0, 4) -> 0; merge(0, 1, 0) -> 5; edit(1, 3, 3) -> 6;",
                    name + "(5, 6) -> 4;" + name + "(6, 5) -> 4;" + name + "(3, 6) -> 2; reset(1, 0) -> 6; edit(1, 0, 1) -> 7;",
                    name + "(7, 5) -> 0;" + name + "(6, 7) -> 0;",
                    name + "(8, 0)" + INDEX, name + "(0, 8)" + INDEX, name + "(-1, 0)" + INDEX, name + "(0, -1)" + INDEX);
        }
    }

    private static void difference() {
        run(15, CONFLICTS, "difference(4, 6) -> 18; difference(6, 4) -> 18; difference(4, 4) -> 0; difference(0, 2) -> 14",
                "difference(7, 0)" + INDEX, "difference(0, 7)" + INDEX, "difference(-1, 0)" + INDEX, "difference(0, -1)" + INDEX);
        run(15, "edit(0, 0, 99) -> 1; edit(0, 5, 99) -> 2; difference(0, 2) -> 198; difference(2, 0) -> 198");
    }

    private static void onLine() {
        run(16, TWO_BRANCHES, "onLine(0, 0) -> 3; onLine(0, 1) -> 2; onLine(0, 3) -> 0; onLine(0, 4)" + MISSING, "onLine(0, -1)" + MISSING,
                "onLine(1, 0) -> 4; merge(0, 1, 0) -> 5; onLine(0, 0) -> 5; onLine(0, 1) -> 3; onLine(0, 4) -> 0",
                "onLine(0, 5)" + MISSING, "onLine(2, 0)" + INDEX, "onLine(-1, -1)" + INDEX, "onLine(0, 2147483647)" + MISSING);
        run(16, fill(1), "onLine(0, 22) -> 1; onLine(0, 23) -> 0; onLine(0, 24)" + MISSING);
    }

    private static void halve() {
        String up = "edit(0, 3, 5) -> 1; edit(0, 3, 15) -> 2; edit(0, 3, 25) -> 3; edit(0, 3, 35) -> 4; edit(0, 3, 45) -> 5;";
        run(17, up, "halve(0, 3, 30, false) -> 4; halve(0, 3, 30, true) -> 2; halve(0, 3, 44, false) -> 5; halve(0, 3, 44, true) -> 2",
                "halve(0, 3, 4, false) -> 1; halve(0, 3, 0, true) -> 3; halve(0, 3, 15, false) -> 3; halve(0, 3, 14, false) -> 2",
                "halve(0, 3, 45, false)" + MISSING, "halve(0, 3, 99, true)" + MISSING, "halve(0, 2, 0, true)" + MISSING,
                "halve(0, 3, 100, true)" + ARGUMENT, "halve(0, 3, -1, true)" + ARGUMENT, "halve(0, 6, 100, true)" + INDEX,
                "halve(0, -1, 0, true)" + INDEX, "halve(1, 3, 0, true)" + INDEX, "halve(-1, 0, 0, true)" + INDEX);
        // Of two in the middle it looks at the nearer one to the tip: 2 (bad), and then 1.
        run(17, "edit(0, 0, 50) -> 1; edit(0, 0, 60) -> 2; edit(0, 0, 70) -> 3; halve(0, 0, 9, false) -> 1; halve(0, 0, 9, true) -> 2",
                "halve(0, 0, 50, false) -> 2; halve(0, 0, 50, true) -> 2; halve(0, 0, 60, true) -> 1; halve(0, 0, 60, false) -> 3");
        run(17, "edit(0, 0, 50) -> 1; halve(0, 0, 49, false) -> 1; halve(0, 0, 49, true) -> 0");
        // Where amounts go up and down it can tell another commit than looking at all.
        run(17, "edit(0, 0, 50) -> 1; edit(0, 0, 1) -> 2; edit(0, 0, 2) -> 3; edit(0, 0, 80) -> 4; halve(0, 0, 9, false) -> 4",
                "firstBad(0, 0, 9) -> 1; halve(0, 0, 9, true) -> 2");
        run(17, fill(1), "halve(0, 5, 0, false) -> 1; halve(0, 5, 0, true) -> 5; halve(0, 5, 22, true) -> 4; halve(0, 5, 11, false) -> 12");
    }

    private static void firstBad() {
        run(18, "edit(0, 3, 5) -> 1; edit(0, 3, 45) -> 2; edit(0, 3, 15) -> 3; edit(0, 3, 50) -> 4; edit(0, 3, 0) -> 5",
                "firstBad(0, 3, 40) -> 2; firstBad(0, 3, 44) -> 2; firstBad(0, 3, 45) -> 4; firstBad(0, 3, 0) -> 1; firstBad(0, 3, 5) -> 2",
                "firstBad(0, 3, 50)" + MISSING, "firstBad(0, 3, 99)" + MISSING, "firstBad(0, 2, 0)" + MISSING,
                "firstBad(0, 3, 100)" + ARGUMENT, "firstBad(0, 3, -1)" + ARGUMENT, "firstBad(0, 6, -1)" + INDEX,
                "firstBad(0, -1, 0)" + INDEX, "firstBad(1, 3, 0)" + INDEX, "firstBad(-1, 3, 0)" + INDEX);
        // A commit that is an ancestor by a second parent alone is not of the line.
        run(18, TWO_BRANCHES, "merge(0, 1, 0) -> 5; firstBad(0, 1, 24) -> 5; firstBad(1, 1, 24) -> 4");
    }

    private static void blame() {
        run(19, TWO_BRANCHES, "blame(0, 0) -> 3; blame(0, 1) -> 2; blame(1, 0) -> 1; blame(1, 1) -> 4; blame(0, 5) -> 0",
                "merge(0, 1, 0) -> 5; blame(0, 1) -> 5; blame(0, 0) -> 3; revert(0, 3, 0) -> 6; blame(0, 0) -> 6",
                "blame(0, 6)" + INDEX, "blame(0, -1)" + INDEX, "blame(2, 0)" + INDEX, "blame(-1, 0)" + INDEX);
    }

    private static void taste() {
        run(20, "taste(0) -> 0.0; edit(0, 0, 1) -> 1; taste(1) -> 0.0625; edit(0, 0, 7) -> 2; taste(2) -> 0.109375",
                "edit(0, 5, 99) -> 3; taste(3) -> " + (0.875f + 74.25f) / 107.0f + "; edit(0, 0, 0) -> 4; taste(4) -> 0.7425",
                "taste(5)" + INDEX, "taste(-1)" + INDEX);
        run(20, TWO_BRANCHES, "merge(0, 1, 0) -> 5; taste(5) -> 0.20608108");
    }

    private static void tasteBits() {
        run(21, "edit(0, 0, 1) -> 1; edit(0, 0, 7) -> 2; edit(0, 5, 99) -> 3; edit(0, 0, 0) -> 4",
                "tasteBits(0) -> 0; tasteBits(1) -> " + Float.floatToIntBits(0.0625f),
                "tasteBits(2) -> " + Float.floatToIntBits(0.109375f),
                "tasteBits(3) -> " + Float.floatToIntBits((0.875f + 74.25f) / 107.0f),
                "tasteBits(4) -> " + Float.floatToIntBits(0.7425f), "tasteBits(5)" + INDEX, "tasteBits(-1)" + INDEX);
    }

    private static void tastiest() {
        run(22, "tastiest(0) -> 0; edit(0, 0, 1) -> 1; tastiest(0) -> 1; edit(0, 5, 50) -> 2; edit(0, 5, 0) -> 3; edit(0, 5, 50) -> 4",
                "tastiest(0) -> 2; edit(0, 0, 0) -> 5; tastiest(0) -> 5; fork(0) -> 1; reset(1, 3) -> 5; tastiest(1) -> 2",
                "reset(1, 1) -> 3; tastiest(1) -> 1; tastiest(2)" + INDEX, "tastiest(-1)" + INDEX);
        run(22, "edit(0, 0, 1) -> 1; edit(0, 0, 0) -> 2; tastiest(0) -> 1; reset(0, 0) -> 2; tastiest(0) -> 0");
    }

    private static void bundle() {
        run(23, "bundle(0) -> 0; account(6) -> 0; account(7) -> 0; put(1, 0) -> 1; bundle(0) -> 1; account(7) -> 0; inBundle(1)" + MISSING,
                "bundle(2) -> 0; account(6) -> 2; bundle(1) -> 0; account(6) -> 1; account(10) -> 5",
                "bundle(3)" + ARGUMENT, "bundle(-1)" + ARGUMENT, "account(6) -> 1; account(10) -> 5");
    }

    private static void put() {
        run(24, TWO_BRANCHES, "merge(0, 1, 0) -> 5; put(0, 1)" + REFUSED, "refusal(false) -> 9; refusal(true) -> -1",
                "bundle(0) -> 0; put(0, 1) -> 1; put(3, 2) -> 2; put(3, 3) -> 2; inBundle(3) -> 3; put(2, 2) -> 3; put(1, 0) -> 4",
                "put(0, 1)" + REFUSED, "refusal(false) -> 10; refusal(true) -> 0; put(1, 3)" + REFUSED, "refusal(false) -> 10; refusal(true) -> 3",
                "put(0, 5)" + REFUSED, "refusal(false) -> 9; refusal(true) -> 0; put(0, 4) -> 4; inBundle(0) -> 4",
                "bundle(1) -> 4; put(0, 0)" + REFUSED, "refusal(false) -> 9; refusal(true) -> 1; put(0, 5) -> 1",
                "put(4, 5)" + INDEX, "put(-1, 5)" + INDEX, "put(0, 6)" + INDEX, "put(0, -1)" + INDEX);
        run(24, "put(4, 0)" + INDEX, "put(0, 1)" + INDEX, "refusal(false)" + MISSING);
    }

    private static void inBundle() {
        run(25, "inBundle(0)" + MISSING, "inBundle(4)" + INDEX, "inBundle(-1)" + INDEX, "bundle(0) -> 0; inBundle(3)" + MISSING,
                "edit(0, 0, 1) -> 1; put(3, 1) -> 1; inBundle(3) -> 1; inBundle(0)" + MISSING, "inBundle(2147483647)" + INDEX);
    }

    private static void play() {
        run(26, TWO_BRANCHES, "edit(1, 1, 30) -> 5; bundle(0) -> 0; put(3, 5) -> 1; put(0, 4) -> 2; play(0, 0) -> 2",
                "account(0) -> 8; amount(6, 1) -> 25; amount(7, 1) -> 30; amount(7, 0) -> 11; tip(0) -> 7; commitOf(7, 0) -> 2",
                "inBundle(3) -> 5; inBundle(0) -> 4; account(7) -> 2; account(10) -> 8; undo() -> 7; account(0) -> 6; tip(0) -> 3",
                "inBundle(0) -> 4");
        // By the order of the places the second one conflicts: all of them or none.
        run(26, TWO_BRANCHES, "edit(1, 1, 30) -> 5; edit(1, 1, 40) -> 6; bundle(0) -> 0; put(0, 4) -> 1; put(2, 6) -> 2",
                "play(0, 0)" + REFUSED, "refusal(false) -> 5; refusal(true) -> 1; account(0) -> 7; tip(0) -> 3; account(4) -> 0",
                "play(0, 1)" + REFUSED, "refusal(false) -> 7; refusal(true) -> 7; account(0) -> 7; play(0, 2) -> 2; amount(8, 1) -> 40");
        run(26, "play(0, 0)" + REFUSED, "refusal(false) -> 11; refusal(true) -> -1; bundle(2) -> 0; play(0, 0)" + REFUSED,
                "refusal(false) -> 11; refusal(true) -> 2; play(1, 9)" + INDEX, "play(-1, 0)" + INDEX, "play(0, 4)" + ARGUMENT,
                "play(0, -1)" + ARGUMENT, "bundle(0) -> 0; put(0, 0) -> 1; play(0, 0)" + REFUSED, "refusal(false) -> 4; refusal(true) -> 0",
                "account(10) -> 3");
        run(26, TWO_BRANCHES, "edit(1, 1, 30) -> 5; bundle(0) -> 0; put(0, 4) -> 1; put(1, 5) -> 2;", fill(6), "undo() -> 7; play(0, 0)" + REFUSED,
                "refusal(false) -> 1; refusal(true) -> 24; account(0) -> 23; undo() -> 6; play(0, 0) -> 2; account(0) -> 24");
    }

    private static void line() {
        run(27, TWO_BRANCHES, "line(0) -> 16; character(0) -> '0'; character(1) -> ' '; character(2) -> 'e'; character(3) -> ':'",
                "character(4) -> ' '; character(15) -> '0'; line(4) -> 18; character(5) -> '1'; character(6) -> '0'; character(7) -> ' '",
                "character(8) -> '2'; character(9) -> '5'; merge(0, 1, 0) -> 5; line(5) -> 18; character(2) -> 'm'",
                "revert(0, 4, 0) -> 6; line(6) -> 18; character(2) -> 'p'; line(7)" + INDEX, "line(-1)" + INDEX, "character(0) -> '6'");
        run(27, fill(1), "reset(0, 9) -> 23; line(9) -> 16; line(10) -> 18; character(0) -> '1'; character(1) -> '0'; character(3) -> 'e'",
                "undo() -> 7; undo() -> 6; undo() -> 5; undo() -> 4; undo() -> 3; undo() -> 2; undo() -> 1; edit(0, 0, 99) -> 18; edit(0, 1, 99) -> 19",
                "edit(0, 2, 99) -> 20; edit(0, 3, 99) -> 21; edit(0, 4, 99) -> 22; edit(0, 5, 99) -> 23; line(23) -> 23; character(22) -> '9'",
                "character(23)" + INDEX);
    }

    private static void character() {
        run(28, "character(0)" + INDEX, "line(0) -> 16; character(15) -> '0'; character(16)" + INDEX, "character(-1)" + INDEX,
                "edit(0, 0, 10) -> 1; line(1) -> 17; character(16) -> '0'; line(0) -> 16; character(16)" + INDEX,
                "line(1) -> 17; undo() -> 0; character(0) -> '1'; character(16) -> '0'; character(2147483647)" + INDEX);
    }

    private static void append() {
        String ten = "fffffffff0";
        run(29, "append(\"e\") -> 1; append(\"0.\") -> 3; account(9) -> 3",
                "append(\"" + ten + ten + ten + ten + ten + "\") -> 53; append(\"1234567\") -> 60; account(9) -> 60; append(\"x\")" + STATE,
                "append(\"f\")" + STATE, "account(9) -> 60; read()" + ARGUMENT, "account(9) -> 0; append(\"x\") -> 1");
        run(29, "append(\"f\") -> 1; edit(0, 0, 1) -> 1; save() -> 2; undo() -> 0; account(9) -> 1; restore() -> 2; account(9) -> 1",
                "append(\"0\") -> 2; account(10) -> 0; read() -> 1; account(9) -> 0; account(1) -> 2");
        // 20 orders fill 59 characters: the first four can be, and the fifth is refused.
        run(29, "append(\"f0;f0;f0;f0;f0;f0;f0;f0;f0;f0;f0;f0;f0;f0;f0;f0;f0;f0;f0;f0\") -> 59; read()" + REFUSED,
                "refusal(false) -> 1; refusal(true) -> 5; account(1) -> 1; errorPosition() -> -1");
        run(29, "append(\"f0;f0;f0;f0;f0;f0;f0;f0;f0;f0;f0;f0;f0;f0;f0;f0;f0;f0;f0;f0;\") -> 60; read()" + ARGUMENT, "errorPosition() -> 60");
    }

    private static void read() {
        run(30, "append(\"e0.3=5\") -> 6; read() -> 1; amount(1, 3) -> 5; account(9) -> 0; errorPosition() -> -1; account(10) -> 1",
                "append(\"e0.3=05;f0;e1.0=99\") -> 18; read()" + REFUSED, "refusal(false) -> 2; refusal(true) -> 5; account(9) -> 0",
                "append(\"e0.3=06;f0;e1.0=99\") -> 18; read() -> 3; tip(1) -> 3; amount(3, 3) -> 6; amount(3, 0) -> 99; account(10) -> 2",
                "undo() -> 1; account(0) -> 2; account(1) -> 1");
        // All of a text or nothing of it; the first order that cannot be decides.
        run(30, "append(\"e0.0=1;e0.0=2;e0.0=2;e9.0=1\") -> 27; read()" + REFUSED, "refusal(true) -> 2; account(0) -> 1; tip(0) -> 0",
                "append(\"e0.0=1;e9.0=1;e0.0=1\") -> 20; read()" + ARGUMENT, "refusal(true) -> 2; account(0) -> 1; errorPosition() -> -1",
                "account(10) -> 0; append(\"e0.0=1;x\") -> 8; read()" + ARGUMENT, "account(0) -> 1; errorPosition() -> 7; account(9) -> 0",
                "read()" + ARGUMENT, "errorPosition() -> 0");
        run(30, "append(\"e0.0=1;f9\") -> 9; read()" + ARGUMENT, "append(\"f1\") -> 2; read()" + ARGUMENT, "append(\"e0.6=1\") -> 6; read()" + ARGUMENT,
                "append(\"m0<1!0\") -> 6; read()" + ARGUMENT, "append(\"m0<0!4\") -> 6; read()" + ARGUMENT, "append(\"p0<1!0\") -> 6; read()" + ARGUMENT,
                "append(\"v0<0!9\") -> 6; read()" + ARGUMENT, "append(\"r0=1\") -> 4; read()" + ARGUMENT, "errorPosition() -> -1; refusal(false)" + MISSING);
    }

    private static void readOrders() {
        run(30, "append(\"e0.0=10;e0.1=20;f0;e0.0=11;e1.1=25;m0<1!0;v0<4!0;r1=1\") -> 53; read() -> 8; account(0) -> 7; tip(0) -> 6; tip(1) -> 1",
                "commitOf(5, 0) -> 1; commitOf(6, 0) -> 2; amount(6, 1) -> 20; append(\"p1<3!2;r0=05\") -> 12; read() -> 2; tip(0) -> 5",
                "amount(7, 0) -> 11; commitOf(7, 0) -> 2; commitOf(7, 1) -> 1; account(10) -> 2; undo() -> 1; undo() -> 0; account(0) -> 1");
        run(30, fill(1), "append(\"r0=23\") -> 5; read()" + REFUSED, "refusal(false) -> 3; refusal(true) -> 23; append(\"r0=12;v0<11!3\") -> 13; read()" + REFUSED,
                "refusal(false) -> 1; tip(0) -> 23; append(\"v0<12!0\") -> 7; read()" + REFUSED, "refusal(false) -> 5; refusal(true) -> 5");
        run(30, TWO_BRANCHES, "append(\"m0<1!0;p0<4!0\") -> 13; read()" + REFUSED, "refusal(false) -> 4; refusal(true) -> 4; account(0) -> 5; tip(0) -> 3",
                "append(\"v0<4!0\") -> 6; read()" + REFUSED, "refusal(false) -> 8; append(\"v0<0!0\") -> 6; read()" + REFUSED, "refusal(false) -> 6");
    }

    private static void errorPosition() {
        String[][] texts = {
            {"x", "0"}, {"E", "0"}, {";", "0"}, {"e", "1"}, {"e0", "2"}, {"ea", "1"}, {"e00", "2"}, {"e0.", "3"}, {"e0,1", "2"}, {"e0.1", "4"},
            {"e0.12", "4"}, {"e0.1=", "5"}, {"e0.1=;", "5"}, {"e0.1=123", "7"}, {"e0.1=12;", "8"}, {"e0.1=1;;", "7"}, {"e0.1=1 ", "6"},
            {"f", "1"}, {"f00", "2"}, {"f0f0", "2"}, {"f0;", "3"}, {"f0;e", "4"}, {"f-", "1"}, {"f9;f9;f9;q", "9"}, {"f0;m0<", "6"},
            {"m0<1", "4"}, {"m0<10!0", "4"}, {"m0<1!", "5"}, {"m0<1!10", "6"}, {"m0>1!1", "2"}, {"m0<1=1", "4"}, {"m<1!1", "1"},
            {"p0<1", "4"}, {"p0<10", "5"}, {"p0<10!", "6"}, {"p0<100!0", "5"}, {"p0<!0", "3"}, {"p0<1!00", "6"}, {"v0<10!x", "6"}, {"v0<", "3"},
            {"r0", "2"}, {"r0=", "3"}, {"r0=1x", "4"}, {"r0=123", "5"}, {"r0<1", "2"}, {"r0=1;r", "6"}, {"v00", "2"}, {"m00<0!0", "2"}, {"p00<0!0", "2"}, {"r00=0", "2"}, {"e00.0=1", "2"}, {"p=", "1"},
        };
        for (String[] text : texts) {
            run(31, "append(\"" + text[0] + "\") -> " + text[0].length(), "errorPosition() -> -1; read()" + ARGUMENT,
                    "errorPosition() -> " + text[1], "account(0) -> 1; account(1) -> 1; append(\"f0\") -> 2; errorPosition() -> " + text[1],
                    "read() -> 1; errorPosition() -> -1");
        }
        run(31, "append(\"e0.0=1;q\") -> 8; read()" + ARGUMENT, "edit(0, 0, 1) -> 1; save() -> 2; undo() -> 0; errorPosition() -> 7; restore() -> 2",
                "errorPosition() -> 7; append(\"f0;f7\") -> 5; read()" + ARGUMENT, "errorPosition() -> -1");
    }

    private static void refusal() {
        run(32, "refusal(false)" + MISSING, "refusal(true)" + MISSING, "edit(0, 0, 100)" + ARGUMENT, "refusal(true)" + MISSING,
                "edit(0, 0, 0)" + REFUSED, "refusal(false) -> 2; refusal(true) -> 0; edit(0, 0, 9) -> 1; refusal(false) -> 2",
                "reset(0, 1)" + REFUSED, "refusal(false) -> 3; refusal(true) -> 1; save() -> 2; undo() -> 0; refusal(false) -> 3",
                "play(0, 0)" + REFUSED, "restore() -> 2; refusal(false) -> 11; refusal(true) -> -1; tip(9)" + INDEX, "refusal(false) -> 11");
    }

    private static void account() {
        run(33, TWO_BRANCHES, "merge(0, 1, 0) -> 5; revert(0, 4, 0) -> 6; account(0) -> 7; account(1) -> 2; account(2) -> 5; account(3) -> 1; account(4) -> 1",
                "account(5) -> 0; account(8) -> 66; reset(0, 2) -> 6; account(5) -> 3; account(8) -> 65; reset(1, 2) -> 4; account(5) -> 4",
                "account(8) -> 60; bundle(0) -> 0; put(1, 1) -> 1; put(2, 2) -> 2; account(6) -> 0; account(7) -> 2; append(\"xy\") -> 2; account(9) -> 2",
                "account(10) -> 8; undo() -> 7; account(10) -> 7; account(7) -> 1; account(11)" + ARGUMENT, "account(-1)" + ARGUMENT,
                "account(2147483647)" + ARGUMENT);
    }

    private static void isWell() {
        run(34, "isWell() -> true;", TWO_BRANCHES, "merge(0, 1, 0) -> 5; merge(1, 0, 0) -> 5; isWell() -> true; revert(0, 1, 2) -> 6; isWell() -> true",
                "edit(0, 4, 4) -> 7; edit(1, 4, 6) -> 8; merge(0, 1, 3) -> 9; isWell() -> true; reset(0, 0) -> 9; pick(0, 9, 2) -> 10; isWell() -> true;",
                fill(11), "isWell() -> true");
    }

    private static void meanTaste() {
        run(35, "meanTaste() -> 0.0; edit(0, 0, 1) -> 1; meanTaste() -> 0.0625; fork(0) -> 1; meanTaste() -> 0.0625; reset(1, 0) -> 1; meanTaste() -> 0.03125",
                "fork(1) -> 2; edit(2, 5, 99) -> 2; meanTaste() -> " + (((double) 0.0625f + 0.0) + (double) 0.7425f) / 3.0);
    }

    private static void editShare() {
        run(36, "editShare() -> 1.0; edit(0, 0, 1) -> 1; editShare() -> 1.0; revert(0, 1, 0) -> 2; editShare() -> " + 2.0f / 3.0f,
                "revert(0, 2, 0) -> 3; editShare() -> 0.5; fork(0) -> 1; edit(0, 1, 1) -> 4; edit(1, 2, 1) -> 5; merge(0, 1, 0) -> 6",
                "editShare() -> " + 4.0f / 7.0f);
    }

    private static void undo() {
        run(37, "undo()" + STATE, "edit(0, 0, 1) -> 1; fork(0) -> 1; edit(1, 1, 2) -> 2; edit(0, 2, 3) -> 3; merge(0, 1, 0) -> 4; reset(1, 0) -> 2",
                "bundle(0) -> 0; put(2, 3) -> 1; undo() -> 7; inBundle(2)" + MISSING, "account(6) -> 0; undo() -> 6; account(6) -> -1; undo() -> 5; tip(1) -> 2",
                "undo() -> 4; tip(0) -> 3; account(0) -> 4; undo() -> 3; tip(0) -> 1; undo() -> 2; tip(1) -> 1; undo() -> 1; tip(1)" + INDEX,
                "undo() -> 0; tip(0) -> 0; account(0) -> 1; undo()" + STATE);
        run(37, "edit(0, 0, 1) -> 1; merge(0, 0, 0)" + REFUSED, "tip(5)" + INDEX, "save() -> 2; line(1) -> 16; append(\"q\") -> 1; read()" + ARGUMENT,
                "account(10) -> 1; fork(0) -> 1; edit(1, 0, 2) -> 2; merge(0, 1, 0) -> 2; account(10) -> 4; undo() -> 3; tip(0) -> 1; account(0) -> 3",
                "pick(0, 2, 0) -> 3; revert(0, 3, 0) -> 4; undo() -> 4; undo() -> 3; tip(0) -> 1; account(0) -> 3; undo() -> 2; account(0) -> 2");
        // The latest 8 alone, and what comes in place of what was undone.
        run(37, fill(1), "undo() -> 7; undo() -> 6; undo() -> 5; undo() -> 4; undo() -> 3; undo() -> 2; undo() -> 1; undo() -> 0; undo()" + STATE,
                "tip(0) -> 15; edit(0, 0, 7) -> 16; account(10) -> 1; amount(16, 5) -> 15; undo() -> 0; tip(0) -> 15; undo()" + STATE);
        // A play and a read are one change each.
        run(37, "edit(0, 0, 1) -> 1; edit(0, 1, 1) -> 2; reset(0, 0) -> 2; bundle(0) -> 0; put(0, 1) -> 1; put(1, 2) -> 2; play(0, 0) -> 2",
                "append(\"f0;f0\") -> 5; read() -> 2; account(10) -> 8; undo() -> 7; account(1) -> 1; undo() -> 6; tip(0) -> 0; account(0) -> 3");
    }

    private static void save() {
        run(38, "save() -> 1; edit(0, 0, 1) -> 1; save() -> 2; account(10) -> 1; edit(0, 0, 2) -> 2; restore() -> 2; tip(0) -> 1; edit(0, 0, 3) -> 2",
                "undo() -> 0; restore() -> 2; tip(0) -> 1");
    }

    private static void restore() {
        run(39, "restore()" + STATE, "edit(0, 0, 1) -> 1; restore()" + STATE, "account(10) -> 1; bundle(0) -> 0; put(3, 1) -> 1; fork(0) -> 1; save() -> 2",
                "edit(1, 1, 8) -> 2; edit(0, 2, 9) -> 3; merge(0, 1, 0) -> 4; bundle(2) -> 1; reset(1, 0) -> 2; fork(0) -> 2; account(10) -> 8",
                "restore() -> 2; account(10) -> 0; undo()" + STATE, "account(0) -> 2; account(1) -> 2; tip(0) -> 1; tip(1) -> 1; inBundle(3) -> 1",
                "account(6) -> 0; account(7) -> 1; edit(0, 5, 5) -> 2; amount(2, 1) -> 0; amount(2, 5) -> 5; commitOf(2, 1) -> 1; isWell() -> true",
                "restore() -> 2; account(0) -> 2; restore() -> 2; account(3) -> 0");
        // Undo goes back behind the snapshot, which stays.
        run(39, "edit(0, 0, 1) -> 1; edit(0, 1, 2) -> 2; save() -> 3; undo() -> 1; undo() -> 0; edit(0, 3, 3) -> 1; edit(0, 4, 4) -> 2; fork(0) -> 1",
                "restore() -> 3; amount(1, 0) -> 1; amount(1, 3) -> 0; amount(2, 1) -> 2; amount(2, 4) -> 0; account(1) -> 1; tip(0) -> 2",
                "isIn(1, 2) -> true; base(1, 2) -> 1; commitOf(2, 5) -> 2");
        // What was made anew in place of the commits of the snapshot goes with all that is known of them.
        run(39, "edit(0, 0, 1) -> 1; revert(0, 1, 0) -> 2; fork(0) -> 1; edit(0, 1, 1) -> 3; edit(1, 2, 1) -> 4; merge(0, 1, 0) -> 5; save() -> 6",
                "undo() -> 5; undo() -> 4; undo() -> 3; undo() -> 2; undo() -> 1; edit(0, 5, 1) -> 2; edit(0, 5, 2) -> 3; edit(0, 5, 3) -> 4",
                "edit(0, 5, 4) -> 5; commitOf(5, 5) -> 5; restore() -> 6; commitOf(2, 0) -> 2; commitOf(5, 0) -> 1; commitOf(4, 1) -> 2",
                "commitOf(5, 1) -> 3; commitOf(5, 2) -> 4; commitOf(5, 4) -> 5; commitOf(5, 5) -> 4; isIn(3, 4) -> false; base(3, 4) -> 2",
                "account(2) -> 4; isWell() -> true");
    }
}
