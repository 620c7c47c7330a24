import java.util.NoSuchElementException;
import java.util.function.ObjIntConsumer;

/** The texts that the tests of boundary cases begin with. */
final class Texts {
    /** The names that are refused in told(): 6 is removed, the others were never given. */
    private static final int[] NOT_TOLD = {-1, 6, 7, 59, 60, 61, Integer.MAX_VALUE, Integer.MIN_VALUE};

    private Texts() {
    }

    /**
     * Nothing is as it is at first: 0 "XI" to 5 stand, 3 is plain, 6 is removed, all have starts and reserve numbers,
     * all levels skip, have formats and differ in going on; reference 1 is broken.
     */
    static NumberingTree told() {
        NumberingTree tree = Check.tree(1, 2, 2, 0, 1, 3, 2);
        for (int paragraph = 0; paragraph < 7; paragraph++) {
            tree.startAt(paragraph, 11 + paragraph);
            tree.reserve(paragraph, 1 + paragraph);
        }
        for (int level = 1; level <= 4; level++) {
            tree.skip(level, 7);
            tree.skip(level, 90 + level);
            tree.setFormat(level, "Rlrl".charAt(level - 1));
            tree.setGoingOn(level, level % 2 == 1);
        }
        tree.refer(0, 2);
        tree.refer(3, 6);
        tree.refer(5, 0);
        tree.remove(6);
        return tree;
    }

    /**
     * In their order 0 "1", 1 "1.1", 2 "1.1.1", 7 "1.1A", 3 "1.2", 4 "2" and the plain 5; 6 "3" is removed. All but 7
     * and 5 are frozen.
     */
    static NumberingTree held() {
        NumberingTree tree = Check.frozenTree(1, 2, 3, 2, 1, 0, 1);
        tree.insert(3, 2);
        tree.refer(2, 7);
        tree.refer(7, 6);
        tree.remove(6);
        tree.startAt(7, 9);
        tree.reserve(1, 3);
        tree.skip(2, 3);
        return tree;
    }

    /** As many paragraphs and references as there may be; names are as places, and every fifth from 0 is plain. */
    static NumberingTree full() {
        NumberingTree tree = new NumberingTree();
        for (int i = 0; i < 60; i++) {
            tree.insert(i, i % 5);
        }
        for (int i = 0; i < 30; i++) {
            tree.refer(i, 31 + i % 4);
        }
        return tree;
    }

    /** The same with all frozen that can be. */
    static NumberingTree fullHeld() {
        NumberingTree tree = full();
        tree.freeze();
        return tree;
    }

    /** Empty once more, but 60 paragraphs were inserted. */
    static NumberingTree spent() {
        NumberingTree tree = new NumberingTree();
        for (int i = 0; i < 60; i++) {
            tree.insert(i, 1);
        }
        for (int i = 0; i < 60; i++) {
            tree.remove(i);
        }
        return tree;
    }

    /** As many paragraphs of a level as these. */
    static NumberingTree row(int amount, int level) {
        NumberingTree tree = new NumberingTree();
        for (int i = 0; i < amount; i++) {
            tree.insert(i, level);
        }
        return tree;
    }

    static NumberingTree single() {
        return Check.tree(1);
    }

    static NumberingTree plain() {
        return Check.tree(0, 0);
    }

    /** The call must be refused with each name that is not there, also where none or all 60 are. */
    static void refusedNames(String what, ObjIntConsumer<NumberingTree> call) {
        Class<NoSuchElementException> absent = NoSuchElementException.class;
        for (int name : NOT_TOLD) {
            Check.refused(what + " of " + name, absent, Texts::told, tree -> call.accept(tree, name));
        }
        Check.refused(what + " of 0 in an empty text", absent, NumberingTree::new, tree -> call.accept(tree, 0));
        Check.refused(what + " of 1 beside a single one", absent, Texts::single, tree -> call.accept(tree, 1));
        Check.refused(what + " of 60 in a full text", absent, Texts::full, tree -> call.accept(tree, 60));
        Check.refused(what + " of -1 in a full text", absent, Texts::full, tree -> call.accept(tree, -1));
        Check.refused(what + " of a frozen one that is removed", absent, Texts::held, tree -> call.accept(tree, 6));
        Check.refused(what + " of the first one removed", absent, Texts::spent, tree -> call.accept(tree, 0));
        Check.refused(what + " of the last one removed", absent, Texts::spent, tree -> call.accept(tree, 59));
    }
}
