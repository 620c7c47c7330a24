import java.util.Objects;
import java.util.function.Consumer;
import java.util.function.Function;
import java.util.function.ObjIntConsumer;
import java.util.function.Supplier;

/** What the tests of the project share: they count what is wrong and end with exit code 1 if anything was. */
final class Check {
    private static int checked = 0;
    private static int wrong = 0;
    private static String about = "";

    private Check() {
    }

    /** What the next checks are about; it is printed ahead of each answer that is wrong. */
    static void about(String sentence) {
        about = sentence.isEmpty() ? "" : sentence + ": ";
    }

    static void same(String what, Object got, Object due) {
        checked++;
        if (!Objects.equals(got, due)) {
            wrong++;
            System.out.println(about + what + " answered " + got + ", due is " + due);
        }
    }

    /** The call must throw just this exception, and the object must then answer as one that was not called so. */
    static void refused(String what, Class<? extends RuntimeException> due, Supplier<NumberingTree> maker,
            Consumer<NumberingTree> call) {
        for (Function<NumberingTree, String> part : Snapshot.PARTS) {
            NumberingTree called = maker.get();
            same(what, thrownBy(() -> call.accept(called)), due);
            same(what + ", then", part.apply(called), part.apply(maker.get()));
        }
    }

    /** The last values beyond both ends of a range, and the least and the greatest int, must be refused. */
    static void refusedBeyond(String what, int least, int greatest, Class<? extends RuntimeException> due,
            Supplier<NumberingTree> maker, ObjIntConsumer<NumberingTree> call) {
        int[] values = {least - 1, greatest + 1, Integer.MIN_VALUE, Integer.MAX_VALUE};
        for (int value : values) {
            refused(what + " with " + value, due, maker, tree -> call.accept(tree, value));
        }
    }

    /** The call must answer this and change nothing. */
    static void asked(String what, Supplier<NumberingTree> maker, Function<NumberingTree, Object> call, Object due) {
        for (Function<NumberingTree, String> part : Snapshot.PARTS) {
            NumberingTree called = maker.get();
            same(what, call.apply(called), due);
            same(what + ", then", part.apply(called), part.apply(maker.get()));
        }
    }

    /** The call must answer this; what it changes is looked at elsewhere. */
    static void taken(String what, Supplier<NumberingTree> maker, Function<NumberingTree, Object> call, Object due) {
        same(what, call.apply(maker.get()), due);
    }

    static Class<?> thrownBy(Runnable call) {
        try {
            call.run();
        } catch (RuntimeException e) {
            return e.getClass();
        }
        return null;
    }

    static String label(NumberingTree tree, int paragraph) {
        StringBuilder text = new StringBuilder();
        int length = tree.labelLength(paragraph);
        for (int i = 0; i < length; i++) {
            text.append(tree.labelAt(paragraph, i));
        }
        return text.toString();
    }

    static String reference(NumberingTree tree, int reference) {
        StringBuilder text = new StringBuilder();
        int length = tree.referenceLength(reference);
        for (int i = 0; i < length; i++) {
            text.append(tree.referenceAt(reference, i));
        }
        return text.toString();
    }

    /** All labels in their order; a plain paragraph is a "-". */
    static String labels(NumberingTree tree) {
        StringBuilder text = new StringBuilder();
        for (int place = 0; place < tree.size(); place++) {
            int paragraph = tree.paragraphAt(place);
            text.append(place == 0 ? "" : " ");
            text.append(tree.levelOf(paragraph) == 0 ? "-" : label(tree, paragraph));
        }
        return text.toString();
    }

    /** A tree with a paragraph of each of these levels, in their order. */
    static NumberingTree tree(int... levels) {
        NumberingTree tree = new NumberingTree();
        for (int i = 0; i < levels.length; i++) {
            tree.insert(i, levels[i]);
        }
        return tree;
    }

    static NumberingTree frozenTree(int... levels) {
        NumberingTree tree = tree(levels);
        tree.freeze();
        return tree;
    }

    static void end(String test) {
        System.out.println(test + ": " + checked + " checks, " + wrong + " wrong");
        if (wrong != 0 || checked == 0) {
            System.exit(1);
        }
    }
}
