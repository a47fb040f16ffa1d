/** A supper of two cooks: the example of README.md. */
public final class Supper {
    public static void main(String[] args) {
        RecipeForests recipes = new RecipeForests();
        recipes.edit(0, 3, 45);                // commit 1: the ingredient 3 is 45 on the branch 0
        int other = recipes.fork(0);           // branch 1, on the same tip
        recipes.edit(other, 3, 20);            // commit 2
        recipes.edit(0, 3, 50);                // commit 3

        try {
            recipes.merge(0, other, 0);        // by the rule 0: not with a conflict
        } catch (UnsupportedOperationException e) {
            System.out.println("refused for " + recipes.refusal(false) + ", detail " + recipes.refusal(true));
        }
        System.out.println("the tip is still " + recipes.tip(0));

        int tip = recipes.merge(0, other, 3);  // commit 4, by the rule 3: the mean of both
        System.out.println(lineOf(recipes, tip));

        for (char c : "e0.1=7;f0".toCharArray()) {
            recipes.append(c);
        }
        System.out.println(recipes.read() + " orders read, the tip is " + recipes.tip(0));
        System.out.println(recipes.undo() + " more to undo, the tip is " + recipes.tip(0));
    }

    private static String lineOf(RecipeForests recipes, int commit) {
        StringBuilder text = new StringBuilder();
        int length = recipes.line(commit);
        for (int i = 0; i < length; i++) {
            text.append(recipes.character(i));
        }
        return text.toString();
    }
}
