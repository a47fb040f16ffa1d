import java.lang.reflect.Field;

/** Promise 34 from inside: no call can make a forest that is not well, so this test spoils one by reflection. */
public final class WellTests {
    private static int wrong = 0;

    public static void main(String[] args) throws ReflectiveOperationException {
        due("nothing spoiled", "amounts", 0, 0, true);
        due("the edit 2 without a change", "amounts", 2 * 6, 5, false);
        due("the edit 2 with two changes", "amounts", 2 * 6 + 3, 4, false);
        due("the pick 5 with two changes", "amounts", 5 * 6 + 3, 4, true);
        due("a first parent with its own number", "firsts", 4, 4, false);
        due("a first parent with a greater number", "firsts", 1, 3, false);
        due("a second parent with its own number", "seconds", 3, 3, false);
        due("a second parent with a greater number", "seconds", 4, 5, false);
        due("an ancestor that is none", "families", 3, 0b1111, false);
        due("an ancestor that is missing", "families", 4, 0b10001, false);
        System.out.println("whether all is well: " + wrong + " answers are not as due");
        if (wrong != 0) {
            System.exit(1);
        }
    }

    private static void due(String what, String row, int index, int value, boolean due) throws ReflectiveOperationException {
        RecipeForests forests = new RecipeForests();
        forests.edit(0, 0, 5);
        forests.fork(0);
        forests.edit(0, 0, 6);
        forests.edit(1, 1, 7);
        forests.merge(0, 1, 0);
        forests.revert(0, 2, 0);
        Object forest = field(forests, "forest").get(forests);
        ((int[]) field(forest, row).get(forest))[index] = value;
        if (forests.isWell() != due) {
            wrong++;
            System.out.println(what + ": isWell() answered " + !due + ", due is " + due);
        }
    }

    private static Field field(Object owner, String name) throws ReflectiveOperationException {
        Field field = owner.getClass().getDeclaredField(name);
        field.setAccessible(true);
        return field;
    }
}
