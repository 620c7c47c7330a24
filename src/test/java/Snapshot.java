import java.util.List;
import java.util.function.Function;
import java.util.function.Supplier;

/** All that can be read off an object, in parts: an object answers 512 calls, and some parts change it. */
final class Snapshot {
    private static final int NAMES = 60;

    static final List<Function<NumberingTree, String>> PARTS = List.of(Snapshot::places, Snapshot::kin,
            Snapshot::numbers, tree -> labels(tree, 0, 20), tree -> labels(tree, 20, 40),
            tree -> labels(tree, 40, NAMES), Snapshot::references, Snapshot::told, Snapshot::levels,
            tree -> skipped(tree, 1), tree -> skipped(tree, 3));

    private Snapshot() {
    }

    private static String places(NumberingTree tree) {
        StringBuilder text = new StringBuilder("size " + tree.size() + " used " + tree.used());
        text.append(" sum ").append(tree.sum()).append(" unique ").append(tree.isUnique());
        for (int place = 0; place < tree.size(); place++) {
            int paragraph = tree.paragraphAt(place);
            text.append(" | ").append(paragraph).append(" at ").append(tree.placeOf(paragraph));
            text.append(" level ").append(tree.levelOf(paragraph));
            text.append(tree.isFrozen(paragraph) ? " frozen" : "");
        }
        return text.toString();
    }

    private static String kin(NumberingTree tree) {
        StringBuilder text = new StringBuilder();
        for (int paragraph = 0; paragraph < NAMES; paragraph++) {
            int name = paragraph;
            text.append(" | ").append(answer(() -> tree.parentOf(name))).append(' ');
            text.append(answer(() -> tree.below(name))).append(' ').append(answer(() -> tree.ahead(name)));
        }
        return text.toString();
    }

    private static String numbers(NumberingTree tree) {
        StringBuilder text = new StringBuilder();
        for (int paragraph = 0; paragraph < NAMES; paragraph++) {
            int name = paragraph;
            text.append(" | ").append(answer(() -> tree.numberOf(name))).append(' ');
            text.append(answer(() -> tree.lettersOf(name))).append(' ');
            text.append(answer(() -> tree.numberByWalk(name))).append(' ');
            text.append(answer(() -> tree.lettersByWalk(name)));
        }
        return text.toString();
    }

    private static String labels(NumberingTree tree, int from, int end) {
        StringBuilder text = new StringBuilder();
        for (int paragraph = from; paragraph < end; paragraph++) {
            int name = paragraph;
            text.append(" | ").append(answer(() -> Check.label(tree, name)));
        }
        return text.toString();
    }

    private static String references(NumberingTree tree) {
        StringBuilder text = new StringBuilder("broken " + tree.broken());
        for (int i = 0; i < tree.references(); i++) {
            int reference = i;
            text.append(" | ").append(tree.targetOf(reference)).append(' ').append(tree.isBroken(reference));
            text.append(' ').append(answer(() -> Check.reference(tree, reference)));
        }
        return text.toString();
    }

    /** What is told of paragraphs cannot be asked: it is found by telling something else. */
    private static String told(NumberingTree tree) {
        StringBuilder text = new StringBuilder();
        for (int paragraph = 0; paragraph < NAMES; paragraph++) {
            int name = paragraph;
            text.append(" | ").append(answer(() -> tree.startAt(name, 1))).append(' ');
            text.append(answer(() -> tree.reserve(name, 1)));
        }
        return text.toString();
    }

    private static String levels(NumberingTree tree) {
        StringBuilder text = new StringBuilder("next " + answer(() -> tree.insert(tree.size(), 0)));
        for (int i = 1; i <= 4; i++) {
            int level = i;
            text.append(" | ").append(tree.setFormat(level, 'd')).append(' ');
            text.append(answer(() -> tree.setGoingOn(level, false)));
        }
        return text.toString();
    }

    private static String skipped(NumberingTree tree, int first) {
        StringBuilder text = new StringBuilder();
        for (int i = 0; i < 2 * 99; i++) {
            int level = first + i / 99;
            int number = 1 + i % 99;
            text.append(' ').append(answer(() -> tree.skip(level, number)));
        }
        return text.toString();
    }

    private static String answer(Supplier<Object> question) {
        try {
            return "" + question.get();
        } catch (RuntimeException e) {
            return e.getClass().getSimpleName();
        }
    }
}
