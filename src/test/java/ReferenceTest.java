import java.util.NoSuchElementException;

/** Promises 13 and 29 to 34: references. */
public final class ReferenceTest {
    private static final Class<NoSuchElementException> ABSENT = NoSuchElementException.class;
    private static final Class<IllegalArgumentException> ARGUMENT = IllegalArgumentException.class;
    private static final Class<IllegalStateException> STATE = IllegalStateException.class;
    private static final Class<IndexOutOfBoundsException> INDEX = IndexOutOfBoundsException.class;

    public static void main(String[] args) {
        refer();
        referUpToThirty();
        shown();
        shownAfterChanges();
        targetThatIsPlain();
        brokenOnes();
        signs();
        wrongInputs();
        Check.end("ReferenceTest");
    }

    private static NumberingTree small() {
        NumberingTree tree = Check.tree(1, 2, 2, 0, 1);
        tree.refer(0, 2);
        return tree;
    }

    private static NumberingTree without(int paragraph) {
        NumberingTree tree = small();
        tree.remove(paragraph);
        return tree;
    }

    private static void refer() {
        NumberingTree tree = small();
        Check.same("refer(3, 4) from a plain one", tree.refer(3, 4), 1);
        Check.same("refer(0, 2) again", tree.refer(0, 2), 2);
        Check.same("references", tree.references(), 3);
        Check.same("targetOf(1)", tree.targetOf(1), 4);
        Check.same("targetOf(2)", tree.targetOf(2), 2);
        Check.refused("refer(5, 5)", ABSENT, ReferenceTest::small, t -> t.refer(5, 5));
        Check.refused("refer(0, -1)", ABSENT, ReferenceTest::small, t -> t.refer(0, -1));
        Check.refused("refer(-1, 0)", ABSENT, ReferenceTest::small, t -> t.refer(-1, 0));
        Check.refused("refer from a removed one to a plain one", ABSENT, () -> without(1), t -> t.refer(1, 3));
        Check.refused("refer to a removed one", ABSENT, () -> without(1), t -> t.refer(0, 1));
        Check.refused("refer(0, 0)", ARGUMENT, ReferenceTest::small, t -> t.refer(0, 0));
        Check.refused("refer(3, 3)", ARGUMENT, ReferenceTest::small, t -> t.refer(3, 3));
        Check.refused("refer(0, 3) to a plain one", ARGUMENT, ReferenceTest::small, t -> t.refer(0, 3));
    }

    private static NumberingTree full() {
        NumberingTree tree = Check.tree(1, 1, 1, 0);
        for (int i = 0; i < 30; i++) {
            tree.refer(0, 1);
        }
        tree.remove(1);
        return tree;
    }

    /** A broken reference counts among the 30. */
    private static void referUpToThirty() {
        Check.same("references", full().references(), 30);
        Check.refused("refer as the 31st", STATE, ReferenceTest::full, t -> t.refer(0, 2));
        Check.refused("refer(0, 0) as the 31st", ARGUMENT, ReferenceTest::full, t -> t.refer(0, 0));
        Check.refused("refer(0, 3) as the 31st", ARGUMENT, ReferenceTest::full, t -> t.refer(0, 3));
        Check.refused("refer(0, 1) as the 31st", ABSENT, ReferenceTest::full, t -> t.refer(0, 1));
        Check.refused("targetOf(30)", ABSENT, ReferenceTest::full, t -> t.targetOf(30));
        Check.asked("targetOf(29)", ReferenceTest::full, t -> t.targetOf(29), 1);
    }

    private static void shown(int from, int target, String due) {
        NumberingTree tree = Check.tree(1, 2, 3, 4, 4, 3, 2, 1, 0, 3);
        tree.refer(from, target);
        Check.same("reference from " + from + " to " + target, Check.reference(tree, 0), due);
    }

    private static void shown() {
        shown(0, 1, "1");
        shown(0, 3, "1.1.1");
        shown(1, 3, "1.1");
        shown(2, 3, "1");
        shown(4, 3, "1");
        shown(5, 3, "1.1");
        shown(6, 3, "1.1.1");
        shown(7, 3, "1.1.1.1");
        shown(8, 3, "1.1.1.1");
        shown(3, 4, "2");
        shown(3, 6, "2");
        shown(3, 2, "1");
        shown(3, 1, "1");
        shown(3, 0, "1");
        shown(3, 7, "2");
        shown(3, 9, "2.1");
        shown(7, 9, "1");
        shown(8, 9, "2.1");
    }

    private static void shownAfterChanges() {
        NumberingTree tree = Check.tree(1, 2, 2, 1, 2);
        tree.refer(1, 4);
        tree.refer(1, 2);
        Check.same("at first", Check.reference(tree, 0) + " " + Check.reference(tree, 1), "2.1 2");
        tree.insert(0, 1);
        tree.setFormat(1, 'R');
        Check.same("behind an inserted one", Check.reference(tree, 0) + " " + Check.reference(tree, 1), "III.1 2");
        tree.setLevel(3, 0);
        Check.same("with the same parent", Check.reference(tree, 0) + " " + Check.reference(tree, 1), "3 2");
        tree.move(2, 5);
        tree.setLevel(3, 1);
        Check.same("with another parent", Check.reference(tree, 0) + " " + Check.reference(tree, 1), "III.1 III.2");
        tree.freeze();
        tree.insert(5, 2);
        tree.insert(6, 3);
        tree.refer(0, 7);
        Check.same("with letters", Check.reference(tree, 2), "III.1A.1");
    }

    private static void targetThatIsPlain() {
        NumberingTree tree = small();
        tree.setLevel(2, 0);
        Check.same("labelLength of another", tree.labelLength(1), 3);
        Check.same("referenceLength to a plain one", tree.referenceLength(0), 0);
        Check.same("referenceAt to a plain one", Check.thrownBy(() -> tree.referenceAt(0, 0)), INDEX);
        Check.same("isBroken to a plain one", tree.isBroken(0), false);
        Check.same("broken to a plain one", tree.broken(), 0);
        tree.setLevel(2, 2);
        Check.same("to one that is plain no more", Check.reference(tree, 0), "2");
        tree.setLevel(2, 0);
        tree.remove(2);
        Check.same("referenceLength to a removed one", Check.thrownBy(() -> tree.referenceLength(0)), STATE);
    }

    private static void brokenOnes() {
        NumberingTree tree = Check.tree(1, 2, 2, 1, 2);
        tree.refer(0, 4);
        tree.refer(4, 1);
        tree.refer(1, 2);
        Check.same("broken at first", tree.broken(), 0);
        tree.remove(3);
        Check.same("broken when one above was removed", tree.broken(), 0);
        Check.same("reference then", Check.reference(tree, 0), "3");
        tree.remove(4);
        Check.same("broken then", tree.broken(), 2);
        Check.same("isBroken by its target", tree.isBroken(0), true);
        Check.same("isBroken by its source", tree.isBroken(1), true);
        Check.same("isBroken by none", tree.isBroken(2), false);
        Check.same("targetOf a broken one", tree.targetOf(0), 4);
        Check.same("references with broken ones", tree.references(), 3);
        tree.remove(1);
        tree.remove(2);
        Check.same("broken by both counts once", tree.broken(), 3);
    }

    private static void signs() {
        NumberingTree tree = Check.tree(1, 2, 1, 2);
        tree.refer(1, 3);
        Check.same("referenceLength", tree.referenceLength(0), 3);
        Check.same("referenceAt(0, 0)", tree.referenceAt(0, 0), '2');
        Check.same("referenceAt(0, 1)", tree.referenceAt(0, 1), '.');
        Check.same("referenceAt(0, 2)", tree.referenceAt(0, 2), '1');
        Check.refused("referenceAt(0, 1)", INDEX, ReferenceTest::small, t -> t.referenceAt(0, 1));
        Check.refused("referenceAt(0, -1)", INDEX, ReferenceTest::small, t -> t.referenceAt(0, -1));
        Check.asked("referenceLength", ReferenceTest::small, t -> t.referenceLength(0), 1);
        Check.asked("referenceAt", ReferenceTest::small, t -> t.referenceAt(0, 0), '2');
        Check.asked("targetOf", ReferenceTest::small, t -> t.targetOf(0), 2);
        Check.asked("isBroken", ReferenceTest::small, t -> t.isBroken(0), false);
        Check.asked("broken", () -> without(0), NumberingTree::broken, 1);
        Check.asked("references", ReferenceTest::small, NumberingTree::references, 1);
    }

    private static void wrongInputs() {
        int[] numbers = {1, -1, 30, Integer.MAX_VALUE, Integer.MIN_VALUE};
        for (int number : numbers) {
            Check.refused("targetOf", ABSENT, ReferenceTest::small, t -> t.targetOf(number));
            Check.refused("isBroken", ABSENT, ReferenceTest::small, t -> t.isBroken(number));
            Check.refused("referenceLength", ABSENT, ReferenceTest::small, t -> t.referenceLength(number));
            Check.refused("referenceAt", ABSENT, ReferenceTest::small, t -> t.referenceAt(number, 99));
        }
        Check.refused("referenceLength of a broken one", STATE, () -> without(0), t -> t.referenceLength(0));
        Check.refused("referenceAt of a broken one", STATE, () -> without(2), t -> t.referenceAt(0, 99));
    }
}
