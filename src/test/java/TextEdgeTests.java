/** The boundaries of promises 27 to 32: lines, the input, texts, error positions and reasons. */
public final class TextEdgeTests {
    private static final Edges EDGES = new Edges();
    private static final String FULL = Edges.fill(1);
    private static final String FIVE = "fork(0) -> 1; fork(0) -> 2; fork(0) -> 3; fork(0) -> 4;";
    private static final String SPLIT = "edit(0, 0, 10) -> 1; fork(0) -> 1; edit(0, 0, 20) -> 2; edit(1, 0, 31) -> 3;";
    private static final String ALL_99 =
            "edit(0, 0, 99) -> 18; edit(0, 1, 99) -> 19; edit(0, 2, 99) -> 20; edit(0, 3, 99) -> 21; edit(0, 4, 99) -> 22; edit(0, 5, 99) -> 23;";
    // 7 edits in 55 characters.
    private static final String SEVEN = "e0.0=10;e0.0=11;e0.0=12;e0.0=13;e0.0=14;e0.0=15;e0.0=16";
    private static final String DIGITS = "0123456789";
    private static final String LETTERS = "efmpvr";

    public static void main(String[] args) {
        line();
        character();
        append();
        appendSigns();
        readTexts();
        readOutOfRange();
        readRefused();
        readWholeOrNot();
        errorPosition();
        errorPositionLatest();
        String[] texts = {"e0.1=12;f0", "f0;e0.1=1;f0", "m0<0!1;f0", "p0<12!3;f0", "p0<1!3;f0", "v0<12!3;f0", "v0<1!3;f0", "r0=12;f0", "r0=1;f0"};
        for (String text : texts) {
            eachSign(text);
        }
        refusal();
        refusalReasons();
        EDGES.finish("edges of texts", 27, 32);
    }

    private static void line() {
        EDGES.at(27, "there is no commit -1", "line(-1) -> index; line(-2147483648) -> index");
        EDGES.at(27, "there is no commit beyond the last", "line(1) -> index; edit(0, 0, 1) -> 1; line(1) -> 16; line(2) -> index; line(2147483647) -> index");
        EDGES.at(27, "the last of 24 commits is 23", FULL, "line(23) -> 18; line(24) -> index");
        EDGES.at(27, "the shortest line has 16 characters", "write(0) -> \"0 e: 0 0 0 0 0 0\"");
        EDGES.at(27, "the longest line has 23 characters", Edges.fill(1, 17), ALL_99, "write(23) -> \"23 e: 99 99 99 99 99 99\"");
        EDGES.at(27, "the commit 9 has one digit and 10 has two", FULL, "write(9) -> \"9 e: 0 0 0 0 0 9\"; write(10) -> \"10 e: 0 0 0 0 0 10\"; write(19) -> \"19 e: 0 0 0 0 0 19\"; write(20) -> \"20 e: 0 0 0 0 0 20\"");
        EDGES.at(27, "amounts of one digit and of two", "edit(0, 0, 9) -> 1; edit(0, 1, 10) -> 2; edit(0, 2, 90) -> 3; edit(0, 5, 1) -> 4; write(4) -> \"4 e: 9 10 90 0 0 1\"");
        EDGES.at(27, "the line of the document", "fork(0) -> 1; edit(0, 1, 12) -> 1; edit(0, 3, 4) -> 2; edit(1, 5, 99) -> 3; edit(0, 0, 1) -> 4; edit(0, 0, 2) -> 5; edit(0, 0, 0) -> 6; merge(0, 1, 0) -> 7; write(7) -> \"7 m: 0 12 0 4 0 99\"");
        EDGES.at(27, "a pick has p", SPLIT, "revert(0, 2, 0) -> 4; write(4) -> \"4 p: 10 0 0 0 0 0\"");
        EDGES.at(27, "a shorter line in place of a longer one", "edit(0, 0, 10) -> 1; write(1) -> \"1 e: 10 0 0 0 0 0\"; write(0) -> \"0 e: 0 0 0 0 0 0\"");
        EDGES.at(27, "the line before stays if there is no such commit", "line(0) -> 16; line(1) -> index; line(-1) -> index; character(0) -> '0'; character(15) -> '0'; character(16) -> index");
        EDGES.at(27, "the line stays through undo and restore", "edit(0, 0, 10) -> 1; line(1) -> 17; undo() -> 0; character(5) -> '1'; character(16) -> '0'; save() -> 1; line(0) -> 16; restore() -> 1; character(5) -> '0'; character(16) -> index");
        EDGES.at(27, "the line is as it was when it was written", "edit(0, 0, 10) -> 1; line(1) -> 17; undo() -> 0; edit(0, 0, 25) -> 1; character(5) -> '1'; character(6) -> '0'; write(1) -> \"1 e: 25 0 0 0 0 0\"");
    }

    private static void character() {
        EDGES.at(28, "the line is empty at first", "character(0) -> index; character(1) -> index; character(-1) -> index");
        EDGES.at(28, "there is no index -1", "line(0) -> 16; character(-1) -> index; character(-2147483648) -> index; character(0) -> '0'");
        EDGES.at(28, "the last index is 1 less than the length", "line(0) -> 16; character(15) -> '0'; character(16) -> index; character(2147483647) -> index");
        EDGES.at(28, "the last index of the longest line is 22", Edges.fill(1, 17), ALL_99, "line(23) -> 23; character(22) -> '9'; character(23) -> index; character(24) -> index");
        EDGES.at(28, "what a longer line had is no more", "edit(0, 0, 10) -> 1; line(1) -> 17; character(16) -> '0'; line(0) -> 16; character(16) -> index");
        EDGES.at(28, "the line is still empty after a line of no commit", "line(1) -> index; character(0) -> index");
    }

    private static void append() {
        EDGES.at(29, "the first of the characters", "append(\"f\") -> 1; account(9) -> 1");
        EDGES.at(29, "the character 60 is the last", "append(\"" + SEVEN + "\") -> 55; append(\"1234\") -> 59; append(\"x\") -> 60; append(\"y\") -> state; account(9) -> 60");
        EDGES.at(29, "a full input stays full", "append(\"" + "x".repeat(60) + "\") -> 60; append(\"y\") -> state; append(\"y\") -> state; account(9) -> 60");
        EDGES.at(29, "the character 61 is not in the text", "append(\"" + SEVEN + ";f0\") -> 58; append(\";f\") -> 60; append(\"0\") -> state; read() -> argument; errorPosition() -> 60");
        EDGES.at(29, "a full input can be read", "append(\"" + SEVEN + ";r0=0\") -> 60; append(\"x\") -> state; read() -> 8; account(9) -> 0; tip(0) -> 0; account(0) -> 8");
        EDGES.at(29, "after read there is room for 60 again", "append(\"" + "x".repeat(60) + "\") -> 60; read() -> argument; append(\"" + "y".repeat(60) + "\") -> 60; append(\"y\") -> state");
        EDGES.at(29, "it is no change", "append(\"f\") -> 1; account(10) -> 0; undo() -> state");
        EDGES.at(29, "undo does not take it back", "edit(0, 0, 1) -> 1; append(\"f\") -> 1; undo() -> 0; append(\"0\") -> 2; read() -> 1");
        EDGES.at(29, "restore does not take it back, and save does not keep it", "append(\"f\") -> 1; save() -> 1; append(\"0\") -> 2; restore() -> 1; account(9) -> 2; read() -> 1; restore() -> 1; account(9) -> 0");
    }

    private static void appendSigns() {
        EDGES.at(29, "any character can be appended", "append(\"\u0000\") -> 1; append(\"\u007f\") -> 2; append(\"\u00ff\") -> 3; append(\"\u0100\") -> 4; append(\"\uffff\") -> 5; append(\" \") -> 6; account(9) -> 6");
        EDGES.at(31, "a digit of another script is no digit", "error(\"e\uff10\") -> 1; error(\"f\u0660\") -> 1; error(\"r0=1\u0661\") -> 4");
        EDGES.at(31, "characters that end in the same bits are others", "error(\"f0\u013b\") -> 2; error(\"\u0166\") -> 0; error(\"f\u0130\") -> 1; error(\"\uffff\") -> 0; error(\"f0\uffff\") -> 2; error(\"\u0000\") -> 0");
        EDGES.at(31, "signs next to the digits are none", "error(\"f/\") -> 1; error(\"f:\") -> 1; error(\"r0=/\") -> 3; error(\"r0=:\") -> 3; error(\"r0=1/\") -> 4; error(\"r0=1:\") -> 4; read(\"f0\") -> 1; read(\"r0=9\") -> argument; errorPosition() -> -1");
        EDGES.at(31, "capital letters are none", "error(\"E0.0=1\") -> 0; error(\"F0\") -> 0; error(\"M0<0!0\") -> 0; error(\"P0<0!0\") -> 0; error(\"V0<0!0\") -> 0; error(\"R0=0\") -> 0");
        EDGES.at(31, "a blank is none anywhere", "error(\" f0\") -> 0; error(\"f 0\") -> 1; error(\"f0 \") -> 2; error(\"f0; f0\") -> 3; error(\"e0.0= 1\") -> 5; error(\"e0.0=1 \") -> 6");
    }

    private static void readTexts() {
        EDGES.at(30, "an empty input ends too early", "read() -> argument; errorPosition() -> 0; account(9) -> 0");
        EDGES.at(30, "one order", "read(\"f0\") -> 1; account(1) -> 2; errorPosition() -> -1; account(9) -> 0");
        EDGES.at(30, "one order of each kind", "read(\"e0.0=10\") -> 1; read(\"f0\") -> 1; read(\"e1.1=5\") -> 1; read(\"e0.2=6\") -> 1; read(\"m0<1!0\") -> 1; read(\"v0<2!0\") -> 1; read(\"r1=0\") -> 1; read(\"p1<4!2\") -> 1",
                "write(4) -> \"4 m: 10 5 6 0 0 0\"; write(5) -> \"5 p: 10 0 6 0 0 0\"; write(6) -> \"6 p: 0 5 0 0 0 0\"; tip(1) -> 6; tip(0) -> 5; account(10) -> 8");
        EDGES.at(30, "4 forks are the most", "read(\"f0;f1;f2;f3\") -> 4; account(1) -> 5; account(10) -> 1");
        EDGES.at(30, "12 orders in 59 characters", "edit(0, 0, 1) -> 1; read(\"r0=0;r0=1;r0=0;r0=1;r0=0;r0=1;r0=0;r0=1;r0=0;r0=1;r0=0;r0=1\") -> 12; tip(0) -> 1; account(10) -> 2");
        EDGES.at(30, "20 orders in 59 characters: the fifth is refused", "read(\"" + "f0;".repeat(19) + "f0\") -> refused 1 5; errorPosition() -> -1; account(1) -> 1");
        EDGES.at(30, "20 orders in 59 characters: the first is out of range", "read(\"" + "f1;".repeat(19) + "f0\") -> argument; errorPosition() -> -1; refusal(false) -> missing");
        EDGES.at(30, "60 characters: 20 orders and a semicolon", "error(\"" + "f0;".repeat(20) + "\") -> 60; account(1) -> 1");
        EDGES.at(30, "60 characters of 8 orders", "read(\"" + SEVEN + ";r0=0\") -> 8; account(0) -> 8; account(10) -> 1; undo() -> 0; account(0) -> 1");
        EDGES.at(30, "amounts of one digit and of two", "read(\"e0.0=1\") -> 1; amount(1, 0) -> 1; read(\"e0.0=02\") -> 1; amount(2, 0) -> 2; read(\"e0.0=99\") -> 1; amount(3, 0) -> 99; read(\"e0.0=00\") -> 1; amount(4, 0) -> 0; read(\"e0.0=9\") -> 1; read(\"e0.0=0\") -> 1; read(\"e0.0=10\") -> 1; amount(7, 0) -> 10");
        EDGES.at(30, "commits of one digit and of two", FULL, "read(\"r0=9\") -> 1; tip(0) -> 9; read(\"r0=08\") -> 1; tip(0) -> 8; read(\"r0=10\") -> 1; tip(0) -> 10; read(\"r0=00\") -> 1; tip(0) -> 0; read(\"r0=23\") -> 1; tip(0) -> 23");
        EDGES.at(30, "picks and reverts of commits of two digits", Edges.fill(1, 13), "fork(0) -> 1; reset(1, 11) -> 13; read(\"p1<13!2;v0<12!2;v0<02!3\") -> 3; amount(14, 5) -> 13; amount(15, 5) -> 11; amount(16, 5) -> 6");
        EDGES.at(30, "an order sees what the orders before it made", "read(\"f0;e1.0=5;m0<1!0;r1=0\") -> 4; tip(0) -> 1; tip(1) -> 0");
        EDGES.at(30, "it is one change", "read(\"f0;e1.0=5;m0<1!0\") -> 3; account(10) -> 1; undo() -> 0; account(1) -> 1; account(0) -> 1; tip(0) -> 0; undo() -> state");
        EDGES.at(30, "undo does not bring the input back", "read(\"f0\") -> 1; undo() -> 0; account(9) -> 0; read() -> argument; errorPosition() -> 0");
        EDGES.at(30, "the input is empty after an error", "error(\"x\") -> 0; account(9) -> 0; read(\"f0\") -> 1");
        EDGES.at(30, "the input is empty after an order out of range", "read(\"f1\") -> argument; account(9) -> 0; read(\"f0\") -> 1");
        EDGES.at(30, "the input is empty after a refusal", "read(\"e0.0=0\") -> refused 2 0; account(9) -> 0; read(\"f0\") -> 1");
        EDGES.at(30, "a merge that makes no commit is an order", "fork(0) -> 1;", FULL, "read(\"m1<0!0\") -> 1; tip(1) -> 23; account(0) -> 24");
    }

    private static void readOutOfRange() {
        String out = " -> argument; errorPosition() -> -1; refusal(false) -> missing; account(10) -> 4; account(9) -> 0;";
        EDGES.at(30, "branches to 4", FIVE, "read(\"e4.0=1\") -> 1; tip(4) -> 1; read(\"e3.0=1;e2.0=1\") -> 2");
        String[] orders = {"e5.0=1", "e9.0=1", "f5", "f9", "m5<0!0", "m0<5!0", "m9<9!0", "p5<0!0", "v5<0!0", "r5=0", "r9=0"};
        for (String order : orders) {
            EDGES.at(30, "there is no branch beyond 4: " + order, FIVE, "read(\"" + order + "\")" + out);
        }
        EDGES.at(30, "ingredients to 5", "read(\"e0.5=1\") -> 1; amount(1, 5) -> 1");
        EDGES.at(30, "there is no ingredient 6", FIVE, "read(\"e0.6=1\")" + out, "read(\"e0.9=0\")" + out);
        EDGES.at(30, "rules to 3", SPLIT, "read(\"m0<1!3\") -> 1; amount(4, 0) -> 25; read(\"v1<1!3\") -> 1; read(\"p1<2!3\") -> 1");
        String[] rules = {"m0<0!4", "m0<1!9", "p0<0!4", "p0<0!9", "v0<0!4", "v0<0!9"};
        for (String rule : rules) {
            EDGES.at(30, "there is no rule beyond 3: " + rule, FIVE, "read(\"" + rule + "\")" + out);
        }
        EDGES.at(30, "commits to 23", FULL, "read(\"p0<23!0\") -> refused 4 23; read(\"v0<23!0\") -> refused 1 24; read(\"r0=23\") -> refused 3 23");
        String[] commits = {"p0<1!0", "p0<01!0", "p0<24!0", "p0<99!0", "v0<1!0", "v0<24!0", "r0=1", "r0=24", "r0=99"};
        for (String commit : commits) {
            EDGES.at(30, "there is no such commit: " + commit, FIVE, "read(\"" + commit + "\")" + out);
        }
        EDGES.at(30, "there is no commit 24 with 24 commits", FULL, "read(\"r0=24\") -> argument; read(\"p0<24!0\") -> argument; read(\"v0<24!0\") -> argument; errorPosition() -> -1; refusal(false) -> missing");
    }

    private static void readRefused() {
        EDGES.at(30, "refused for 1, 24 commits", FULL, "read(\"e0.0=1\") -> refused 1 24");
        EDGES.at(30, "refused for 1, 5 branches", FIVE, "read(\"f0\") -> refused 1 5");
        EDGES.at(30, "refused for 2", "read(\"e0.0=00\") -> refused 2 0; edit(0, 5, 99) -> 1; read(\"e0.5=99\") -> refused 2 99");
        EDGES.at(30, "refused for 3", "read(\"r0=00\") -> refused 3 0");
        EDGES.at(30, "refused for 4", SPLIT, "read(\"m0<0!0\") -> refused 4 2; read(\"p0<1!0\") -> refused 4 1");
        EDGES.at(30, "refused for 5", SPLIT, "read(\"m0<1!0\") -> refused 5 0; read(\"v0<1!0\") -> refused 5 0");
        EDGES.at(30, "refused for 6", "read(\"v0<0!0\") -> refused 6 0");
        EDGES.at(30, "refused for 7", SPLIT, "read(\"v0<1!1\") -> refused 7 2; read(\"p0<3!1\") -> refused 7 2");
        EDGES.at(30, "refused for 8", SPLIT, "read(\"v0<3!0\") -> refused 8 3");
        EDGES.at(30, "a refused text has no error", "error(\"q\") -> 0; read(\"e0.0=0\") -> refused 2 0; errorPosition() -> -1");
    }

    private static void readWholeOrNot() {
        EDGES.at(30, "nothing of it, as the last order is refused", "read(\"e0.0=1;f0;e1.0=2;e1.0=2\") -> refused 2 2; account(0) -> 1; account(1) -> 1; tip(0) -> 0; account(10) -> 0");
        EDGES.at(30, "nothing of it, as the last order is out of range", "read(\"e0.0=1;f0;e2.0=2\") -> argument; account(0) -> 1; account(1) -> 1; tip(0) -> 0; account(10) -> 0; refusal(false) -> missing");
        EDGES.at(30, "nothing of it, as the last order has an error", "error(\"e0.0=1;f0;e1.0=\") -> 15; account(0) -> 1; account(1) -> 1; account(10) -> 0");
        EDGES.at(30, "an error comes before an order that is refused", "error(\"e0.0=0;x\") -> 7; refusal(false) -> missing");
        EDGES.at(30, "an error comes before an order out of range", "error(\"f9;x\") -> 3; refusal(false) -> missing");
        EDGES.at(30, "the first order that cannot be decides: refused, and then out of range", "read(\"e0.0=0;f9\") -> refused 2 0; errorPosition() -> -1");
        EDGES.at(30, "the first order that cannot be decides: out of range, and then refused", "read(\"f9;e0.0=0\") -> argument; errorPosition() -> -1; refusal(false) -> missing");
        EDGES.at(30, "the first order that cannot be decides: of two that are refused", "read(\"e0.0=7;r0=1;r0=0;r0=0\") -> refused 3 1; read(\"r0=0;e0.0=0\") -> refused 3 0; read(\"e0.0=0;r0=0\") -> refused 2 0");
        EDGES.at(30, "the detail is of a commit that is no more", "read(\"e0.0=7;e0.0=8;r0=2\") -> refused 3 2; account(0) -> 1; amount(1, 0) -> index");
        EDGES.at(30, "it goes beyond 24 commits", Edges.fill(1, 22), "read(\"e0.0=7;e0.0=8\") -> refused 1 24; account(0) -> 23; read(\"e0.0=7\") -> 1; account(0) -> 24");
        EDGES.at(30, "the changes before it can be undone", "edit(0, 0, 1) -> 1; read(\"e0.0=7;f9\") -> argument; account(10) -> 1; undo() -> 0; account(0) -> 1");
    }

    private static void errorPosition() {
        EDGES.at(31, "too early: the length", "error(\"e\") -> 1; error(\"e0\") -> 2; error(\"e0.\") -> 3; error(\"e0.0\") -> 4; error(\"e0.0=\") -> 5; error(\"e0.0=1;\") -> 7; error(\"e0.0=12;\") -> 8; error(\"f\") -> 1");
        EDGES.at(31, "the first character", "error(\"a\") -> 0; error(\";\") -> 0; error(\"0\") -> 0; error(\";f0\") -> 0; error(\"xyz\") -> 0");
        EDGES.at(31, "the first of several", "error(\"exx\") -> 1; error(\"f0x;x\") -> 2; error(\"m0>0?0\") -> 2");
        EDGES.at(31, "two semicolons", "error(\"f0;;f0\") -> 3; error(\"f0;;\") -> 3");
        EDGES.at(31, "three digits of an amount or a commit", "error(\"e0.0=100\") -> 7; error(\"e0.0=000\") -> 7; error(\"r0=100\") -> 5; error(\"p0<100!0\") -> 5; error(\"v0<000!0\") -> 5");
        EDGES.at(31, "two digits of all else", "error(\"e00.0=1\") -> 2; error(\"e0.00=1\") -> 4; error(\"f00\") -> 2; error(\"m00<0!0\") -> 2; error(\"m0<00!0\") -> 4; error(\"m0<0!00\") -> 6; error(\"p00<0!0\") -> 2; error(\"p0<0!00\") -> 6; error(\"v0<00!00\") -> 7; error(\"r00=0\") -> 2");
        EDGES.at(31, "no digit", "error(\"e.0=1\") -> 1; error(\"e0.=1\") -> 3; error(\"e0.0=;\") -> 5; error(\"f;\") -> 1; error(\"m<0!0\") -> 1; error(\"m0<!0\") -> 3; error(\"m0<0!;\") -> 5; error(\"p0<!0\") -> 3; error(\"r0=;\") -> 3; error(\"r=0\") -> 1");
        EDGES.at(31, "a minus is no digit", "error(\"e0.0=-1\") -> 5; error(\"r0=-1\") -> 3; error(\"f-1\") -> 1");
        EDGES.at(31, "each digit can continue, whatever there is", "read(\"f5\") -> argument; errorPosition() -> -1; read(\"e0.6=1\") -> argument; errorPosition() -> -1; read(\"m0<0!4\") -> argument; errorPosition() -> -1; read(\"r0=99\") -> argument; errorPosition() -> -1");
        EDGES.at(31, "the last of 60 characters", "error(\"" + SEVEN + ";r0=x\") -> 59; error(\"" + SEVEN + ";f0;x\") -> 59");
        EDGES.at(31, "too early with 60 characters", "error(\"" + SEVEN + ";f0;f\") -> 60; error(\"" + SEVEN + ";r0;;\") -> 58; error(\"" + "f0;".repeat(20) + "\") -> 60");
        EDGES.at(31, "60 characters without a good one", "error(\"" + "x".repeat(60) + "\") -> 0; error(\"" + ";".repeat(60) + "\") -> 0; error(\"" + "f".repeat(60) + "\") -> 1; error(\"f" + "0".repeat(59) + "\") -> 2");
    }

    private static void errorPositionLatest() {
        EDGES.at(31, "-1 as read has not been called", "errorPosition() -> -1; append(\"xyz\") -> 3; errorPosition() -> -1");
        EDGES.at(31, "-1 after a text that was carried out", "error(\"ex\") -> 1; read(\"f0\") -> 1; errorPosition() -> -1");
        EDGES.at(31, "-1 after a text that was refused", "error(\"ex\") -> 1; read(\"e0.0=0\") -> refused 2 0; errorPosition() -> -1");
        EDGES.at(31, "-1 after an order out of range", "error(\"ex\") -> 1; read(\"f9\") -> argument; errorPosition() -> -1");
        EDGES.at(31, "it is that of the latest text", "error(\"ex\") -> 1; error(\"f0;\") -> 3; errorPosition() -> 3; read() -> argument; errorPosition() -> 0");
        EDGES.at(31, "what is appended changes nothing yet", "error(\"ex\") -> 1; append(\"f0\") -> 2; errorPosition() -> 1; read() -> 1; errorPosition() -> -1");
        EDGES.at(31, "it stays through undo and changes", "edit(0, 0, 1) -> 1; error(\"ex\") -> 1; undo() -> 0; errorPosition() -> 1; fork(0) -> 1; errorPosition() -> 1");
        EDGES.at(31, "it stays through save and restore", "save() -> 1; error(\"ex\") -> 1; restore() -> 1; errorPosition() -> 1; save() -> 1; error(\"f0x\") -> 2; restore() -> 1; errorPosition() -> 2");
        EDGES.at(31, "undo of a text leaves it", "read(\"f0\") -> 1; error(\"ex\") -> 1; undo() -> 0; errorPosition() -> 1");
    }

    /** Behind each beginning of a good text each character but those that can continue it. */
    private static void eachSign(String text) {
        boolean isRight = true;
        for (int length = 0; length < text.length(); length++) {
            String good = next(text, length);
            for (char sign = 0; sign < 300; sign++) {
                int position = positionOf(text.substring(0, length) + sign);
                boolean isGood = good.indexOf(sign) >= 0;
                boolean isEnd = position == -1 || position == length + 1;
                isRight &= isGood ? isEnd : position == length;
            }
        }
        EDGES.due(31, "each character at each place of " + text, isRight);
    }

    private static String next(String text, int length) {
        if (length == 0 || text.charAt(length - 1) == ';') {
            return LETTERS;
        }
        char now = text.charAt(length);
        boolean isDigit = DIGITS.indexOf(now) >= 0;
        boolean isBehindDigit = DIGITS.indexOf(text.charAt(length - 1)) >= 0;
        if (isDigit && isBehindDigit) {
            // The first digit of two: what follows the second one is here good, too.
            return DIGITS + text.charAt(length + 1);
        }
        if (isDigit) {
            return DIGITS;
        }
        int order = text.lastIndexOf(';', length - 1) + 1;
        int places = length - order;
        char letter = text.charAt(order);
        boolean isCommit = (letter == 'p' || letter == 'v' || letter == 'r') && places == 4;
        boolean isAmount = letter == 'e' && places == 6;
        return isCommit || isAmount ? DIGITS + now : String.valueOf(now);
    }

    private static int positionOf(String text) {
        RecipeForests forests = new RecipeForests();
        for (char sign : text.toCharArray()) {
            forests.append(sign);
        }
        try {
            forests.read();
        } catch (IllegalArgumentException | UnsupportedOperationException e) {
            return forests.errorPosition();
        }
        return forests.errorPosition();
    }

    private static void refusal() {
        EDGES.at(32, "nothing was refused at first", "refusal(false) -> missing; refusal(true) -> missing");
        EDGES.at(32, "other exceptions are no refusals", "edit(1, 0, 0) -> index; edit(0, 0, 100) -> argument; undo() -> state; restore() -> state; inBundle(0) -> missing; read() -> argument; halve(0, 0, 0, true) -> missing; refusal(false) -> missing; refusal(true) -> missing");
        EDGES.at(32, "the latest one", "edit(0, 0, 0) -> refused 2 0; reset(0, 0) -> refused 3 0; play(0, 0) -> refused 11 -1; edit(0, 0, 0) -> refused 2 0");
        EDGES.at(32, "it stays through other exceptions", "play(0, 0) -> refused 11 -1; edit(1, 0, 0) -> index; bundle(3) -> argument; error(\"x\") -> 0; read(\"f9\") -> argument; refusal(false) -> 11; refusal(true) -> -1");
        EDGES.at(32, "it stays through changes", "play(0, 0) -> refused 11 -1; edit(0, 0, 1) -> 1; bundle(1) -> 0; read(\"f0\") -> 1; refusal(false) -> 11; refusal(true) -> -1");
        EDGES.at(32, "it stays through undo", "edit(0, 0, 1) -> 1; reset(0, 1) -> refused 3 1; undo() -> 0; refusal(false) -> 3; refusal(true) -> 1; undo() -> state; refusal(false) -> 3");
        EDGES.at(32, "it stays through save and restore", "save() -> 1; edit(0, 0, 0) -> refused 2 0; restore() -> 1; refusal(false) -> 2; refusal(true) -> 0; reset(0, 0) -> refused 3 0; restore() -> 1; refusal(false) -> 3");
        EDGES.at(32, "of a text", "read(\"f0;e1.0=5;r1=1\") -> refused 3 1; refusal(false) -> 3; refusal(true) -> 1");
        EDGES.at(32, "a text out of range keeps none of its own", "edit(0, 0, 0) -> refused 2 0; read(\"e0.0=1;f9\") -> argument; refusal(false) -> 2; refusal(true) -> 0");
        EDGES.at(32, "conflicts that are only counted are none", SPLIT, "conflicts(0, 1) -> 1; refusal(false) -> missing");
    }

    private static void refusalReasons() {
        EDGES.at(32, "1: the 24 commits are told with the commit 0", FULL, "edit(0, 0, 1) -> refused 1 24");
        EDGES.at(32, "1: the 5 branches", FIVE, "fork(0) -> refused 1 5");
        EDGES.at(32, "2: the amount", "edit(0, 0, 42) -> 1; edit(0, 0, 42) -> refused 2 42");
        EDGES.at(32, "3: the tip", "edit(0, 0, 42) -> 1; reset(0, 1) -> refused 3 1");
        EDGES.at(32, "4: the commit that is merged", SPLIT, "merge(0, 1, 1) -> 4; merge(0, 1, 1) -> refused 4 3");
        EDGES.at(32, "4: the commit that is picked", SPLIT, "pick(0, 1, 1) -> refused 4 1");
        EDGES.at(32, "5: the ingredient", SPLIT, "edit(0, 3, 1) -> 4; edit(1, 3, 2) -> 5; merge(0, 1, 0) -> refused 5 0; edit(0, 0, 10) -> 6; merge(0, 1, 0) -> refused 5 3");
        EDGES.at(32, "6: 0", "edit(0, 0, 42) -> 1; revert(0, 0, 0) -> refused 6 0");
        EDGES.at(32, "7: the tip", SPLIT, "pick(1, 2, 1) -> refused 7 3; revert(0, 1, 1) -> refused 7 2");
        EDGES.at(32, "8: the commit", SPLIT, "revert(0, 3, 1) -> refused 8 3");
        EDGES.at(32, "9: -1, or what it is for", SPLIT, "put(0, 1) -> refused 9 -1; bundle(1) -> 0; put(0, 1) -> refused 9 1; bundle(2) -> 0; put(0, 1) -> refused 9 2; merge(0, 1, 1) -> 4; bundle(0) -> 0; put(0, 4) -> refused 9 0");
        EDGES.at(32, "10: its place", SPLIT, "bundle(0) -> 0; put(3, 2) -> 1; put(0, 2) -> refused 10 3; put(0, 1) -> 2; put(3, 1) -> refused 10 0");
        EDGES.at(32, "11: what it is for, -1 if there is none", "play(0, 0) -> refused 11 -1; bundle(0) -> 0; play(0, 0) -> refused 11 0; bundle(1) -> 0; play(0, 0) -> refused 11 1; bundle(2) -> 0; play(0, 0) -> refused 11 2");
    }
}
