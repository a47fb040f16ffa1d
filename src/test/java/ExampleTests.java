/** The examples of the document, as they stand there. */
public final class ExampleTests {
    public static void main(String[] args) {
        Script script = new Script();
        script.run("Edits, a fork and a merge",
                "edit(0, 0, 10) -> 1; edit(0, 1, 20) -> 2; fork(0) -> 1; edit(0, 0, 11) -> 3; edit(1, 1, 25) -> 4;",
                "conflicts(0, 1) -> 0; merge(0, 1, 0) -> 5; line(5) -> 18; base(3, 4) -> 2; baseAgain(3, 4) -> 2;",
                "commitOf(5, 4) -> 5; blame(0, 1) -> 5; taste(5) -> 0.20608108; tastiest(0) -> 5;",
                "editShare() -> 0.8333333; meanTaste() -> 0.20720720291137695");
        script.run("Halving, reverting and picking",
                "edit(0, 3, 5) -> 1; edit(0, 3, 15) -> 2; edit(0, 3, 45) -> 3; edit(0, 3, 50) -> 4;",
                "halve(0, 3, 40, false) -> 3; halve(0, 3, 40, true) -> 2; firstBad(0, 3, 40) -> 3;",
                "revert(0, 3, 0) -> throws UnsupportedOperationException; refusal(true) -> 3; revert(0, 3, 2) -> 5;",
                "amount(5, 3) -> 15; fork(0) -> 1; reset(1, 2) -> 5;",
                "pick(1, 4, 1) -> throws UnsupportedOperationException; refusal(false) -> 7; isWell() -> true");
        script.run("What is refused by a new object",
                "tip(1) -> throws IndexOutOfBoundsException; put(0, 0) -> throws UnsupportedOperationException;",
                "refusal(false) -> 9; commitOf(0, 6) -> throws IllegalArgumentException;",
                "revert(0, 0, 0) -> throws UnsupportedOperationException; read() -> throws IllegalArgumentException;",
                "errorPosition() -> 0; undo() -> throws IllegalStateException; restore() -> throws IllegalStateException");
        script.finish("the document's examples");
    }
}
