import java.util.List;
import java.util.NoSuchElementException;
import java.util.function.ObjIntConsumer;
import java.util.function.Supplier;

/** The boundary cases of promises 13 and 29 to 34: references. */
final class ReferenceEdges {
    private static final Class<NoSuchElementException> ABSENT = NoSuchElementException.class;
    private static final Class<IllegalArgumentException> ARGUMENT = IllegalArgumentException.class;
    private static final Class<IllegalStateException> STATE = IllegalStateException.class;
    private static final Class<IndexOutOfBoundsException> INDEX = IndexOutOfBoundsException.class;

    private ReferenceEdges() {
    }

    static List<Edge> all() {
        return List.of(
                new Edge(13, "Returns", ReferenceEdges::referReturns),
                new Edge(13, "Throws `NoSuchElementException`", ReferenceEdges::referNoParagraph),
                new Edge(13, "Throws `IllegalArgumentException`", ReferenceEdges::referSameOrPlain),
                new Edge(13, "Throws `IllegalStateException`", ReferenceEdges::referThirtyFirst),
                new Edge(29, "Returns", ReferenceEdges::references),
                new Edge(30, "`int targetOf(", ReferenceEdges::targetOf),
                new Edge(30, "Throws", () -> refusedNumbers("targetOf", NumberingTree::targetOf)),
                new Edge(31, "Returns", ReferenceEdges::isBroken),
                new Edge(31, "Throws", () -> refusedNumbers("isBroken", NumberingTree::isBroken)),
                new Edge(32, "Returns", ReferenceEdges::referenceLength),
                new Edge(32, "Throws `NoSuchElementException`",
                        () -> refusedNumbers("referenceLength", NumberingTree::referenceLength)),
                new Edge(32, "Throws `IllegalStateException`",
                        () -> refusedBroken("referenceLength", NumberingTree::referenceLength)),
                new Edge(33, "- `index`", ReferenceEdges::referenceAtIndex),
                new Edge(33, "Throws `NoSuchElementException`",
                        () -> refusedNumbers("referenceAt", (tree, number) -> tree.referenceAt(number, 0))),
                new Edge(33, "Throws `IllegalStateException`",
                        () -> refusedBroken("referenceAt", (tree, number) -> tree.referenceAt(number, 0))),
                new Edge(33, "Throws `IndexOutOfBoundsException`", ReferenceEdges::referenceAtNoIndex),
                new Edge(34, "Returns", ReferenceEdges::broken));
    }

    /** A reference of the number 0 and one of the number 29, with the same ends. */
    private static NumberingTree thirty() {
        NumberingTree tree = Check.tree(1, 2, 2, 0);
        for (int i = 0; i < 30; i++) {
            tree.refer(1, 2);
        }
        return tree;
    }

    private static void referReturns() {
        NumberingTree tree = Check.tree(1, 0);
        for (int number = 0; number < 30; number++) {
            Check.same("refer from a plain one", tree.refer(1, 0), number);
        }
        Check.taken("refer behind a broken one", Texts::told, told -> told.refer(0, 1), 3);
        Check.taken("refer when all are broken", () -> {
            NumberingTree told = Texts.told();
            told.remove(0);
            told.remove(3);
            return told;
        }, told -> told.refer(1, 2), 3);
    }

    private static void referNoParagraph() {
        Texts.refusedNames("refer from one", (tree, name) -> tree.refer(name, 2));
        Texts.refusedNames("refer to one", (tree, name) -> tree.refer(1, name));
        Texts.refusedNames("refer from one to the same", (tree, name) -> tree.refer(name, name));
        Texts.refusedNames("refer from one to a plain one", (tree, name) -> tree.refer(name, 3));
        Check.refused("refer in an empty text", ABSENT, NumberingTree::new, tree -> tree.refer(0, 1));
    }

    private static void referSameOrPlain() {
        Check.refused("refer(0, 0) of a single one", ARGUMENT, Texts::single, tree -> tree.refer(0, 0));
        Check.refused("refer(5, 5)", ARGUMENT, Texts::told, tree -> tree.refer(5, 5));
        Check.refused("refer(3, 3) of a plain one", ARGUMENT, Texts::told, tree -> tree.refer(3, 3));
        Check.refused("refer(0, 3) to a plain one", ARGUMENT, Texts::told, tree -> tree.refer(0, 3));
        Check.refused("refer(0, 1) of plain ones", ARGUMENT, Texts::plain, tree -> tree.refer(0, 1));
        Check.refused("refer to one that became plain", ARGUMENT, () -> {
            NumberingTree tree = Texts.told();
            tree.setLevel(2, 0);
            return tree;
        }, tree -> tree.refer(0, 2));
        Check.taken("refer(3, 0) from a plain one", Texts::told, tree -> tree.refer(3, 0), 3);
        Check.taken("refer(0, 3) to one that is plain no more", Texts::told, tree -> {
            tree.setLevel(3, 4);
            return tree.refer(0, 3);
        }, 3);
    }

    private static void referThirtyFirst() {
        NumberingTree tree = Check.tree(1, 1);
        for (int i = 0; i < 29; i++) {
            tree.refer(0, 1);
        }
        Check.same("refer as the thirtieth", tree.refer(1, 0), 29);
        Check.same("targetOf the thirtieth", tree.targetOf(29), 0);
        Check.refused("refer as the 31st", STATE, ReferenceEdges::thirty, full -> full.refer(1, 2));
        Check.refused("refer as the 31st, with other ends", STATE, ReferenceEdges::thirty, full -> full.refer(3, 0));
        Check.refused("refer as the 31st in a full text", STATE, Texts::full, full -> full.refer(0, 59));
        Check.refused("refer as the 31st when all are broken", STATE, () -> {
            NumberingTree full = thirty();
            full.remove(2);
            return full;
        }, full -> full.refer(0, 1));
        Check.refused("refer as the 31st when a target is plain", STATE, () -> {
            NumberingTree full = thirty();
            full.setLevel(2, 0);
            return full;
        }, full -> full.refer(0, 1));
    }

    private static void references() {
        Check.asked("references of an empty text", NumberingTree::new, NumberingTree::references, 0);
        Check.asked("references, a broken one among them", Texts::told, NumberingTree::references, 3);
        Check.asked("references of the most", ReferenceEdges::thirty, NumberingTree::references, 30);
        Check.asked("references of a full text", Texts::full, NumberingTree::references, 30);
    }

    private static void targetOf() {
        Check.asked("targetOf the first", Texts::told, tree -> tree.targetOf(0), 2);
        Check.asked("targetOf a broken one", Texts::told, tree -> tree.targetOf(1), 6);
        Check.asked("targetOf the last", Texts::told, tree -> tree.targetOf(2), 0);
        Check.asked("targetOf the thirtieth", Texts::full, tree -> tree.targetOf(29), 32);
        Check.asked("targetOf one whose source is removed", () -> {
            NumberingTree tree = Texts.told();
            tree.remove(0);
            return tree;
        }, tree -> tree.targetOf(0), 2);
        Check.asked("targetOf one whose ends are both removed", () -> {
            NumberingTree tree = Texts.told();
            tree.remove(0);
            tree.remove(2);
            return tree;
        }, tree -> tree.targetOf(0), 2);
    }

    private static void refusedNumbers(String what, ObjIntConsumer<NumberingTree> call) {
        Check.refusedBeyond(what, 0, 2, ABSENT, Texts::told, call);
        Check.refusedBeyond(what + " of 30", 0, 29, ABSENT, ReferenceEdges::thirty, call);
        Check.refusedBeyond(what + " of none", 0, -1, ABSENT, NumberingTree::new, call);
        Check.refusedBeyond(what + " of none beside paragraphs", 0, -1, ABSENT, Texts::plain, call);
    }

    private static void refusedBroken(String what, ObjIntConsumer<NumberingTree> call) {
        Check.refused(what + " whose target is removed", STATE, Texts::told, tree -> call.accept(tree, 1));
        Check.refused(what + " whose source is removed", STATE, () -> {
            NumberingTree tree = Texts.told();
            tree.remove(0);
            return tree;
        }, tree -> call.accept(tree, 0));
        Check.refused(what + " whose ends are both removed", STATE, () -> {
            NumberingTree tree = thirty();
            tree.remove(1);
            tree.remove(2);
            return tree;
        }, tree -> call.accept(tree, 29));
        Check.refused(what + " whose target was plain ahead of that", STATE, () -> {
            NumberingTree tree = thirty();
            tree.setLevel(2, 0);
            tree.remove(2);
            return tree;
        }, tree -> call.accept(tree, 0));
    }

    private static void isBroken() {
        Check.asked("isBroken", Texts::told, tree -> tree.isBroken(0), false);
        Check.asked("isBroken by its target", Texts::told, tree -> tree.isBroken(1), true);
        Check.asked("isBroken by a removed frozen one", Texts::held, tree -> tree.isBroken(1), true);
        Check.asked("isBroken of the thirtieth", ReferenceEdges::thirty, tree -> tree.isBroken(29), false);
        for (int name = 0; name < 4; name++) {
            int removed = name;
            Supplier<NumberingTree> maker = () -> {
                NumberingTree tree = thirty();
                tree.remove(removed);
                return tree;
            };
            boolean due = name == 1 || name == 2;
            Check.asked("isBroken(0) when " + name + " is removed", maker, tree -> tree.isBroken(0), due);
            Check.asked("isBroken(29) when " + name + " is removed", maker, tree -> tree.isBroken(29), due);
        }
        Check.asked("isBroken of one with a plain target", ReferenceEdges::plainTarget, tree -> tree.isBroken(0),
                false);
    }

    private static NumberingTree plainTarget() {
        NumberingTree tree = thirty();
        tree.setLevel(2, 0);
        return tree;
    }

    private static void referenceLength() {
        Check.asked("referenceLength to a plain one", ReferenceEdges::plainTarget, tree -> tree.referenceLength(0), 0);
        Check.asked("referenceLength of the thirtieth to a plain one", ReferenceEdges::plainTarget,
                tree -> tree.referenceLength(29), 0);
        Check.asked("referenceLength without the shared part", ReferenceEdges::thirty, tree -> tree.referenceLength(0),
                1);
        Check.asked("referenceLength with all parts", () -> ends(4, 3), tree -> tree.referenceLength(0), 7);
        Check.asked("referenceLength from one above all parts", () -> ends(0, 3), tree -> tree.referenceLength(0), 5);
        Check.asked("referenceLength from the parent", () -> ends(2, 3), tree -> tree.referenceLength(0), 1);
        Check.asked("referenceLength to the parent", () -> ends(3, 2), tree -> tree.referenceLength(0), 1);
        Check.asked("referenceLength to the first above", () -> ends(3, 0), tree -> tree.referenceLength(0), 1);
    }

    /** "1", "1.1", "1.1.1", "1.1.1.1" and "2", with a reference. */
    private static NumberingTree ends(int source, int target) {
        NumberingTree tree = Check.tree(1, 2, 3, 4, 1);
        tree.refer(source, target);
        return tree;
    }

    private static void referenceAtIndex() {
        String due = "1.1.1.1";
        for (int index = 0; index < due.length(); index++) {
            int at = index;
            Check.asked("referenceAt(0, " + index + ")", () -> ends(4, 3), tree -> tree.referenceAt(0, at),
                    due.charAt(index));
        }
        Check.asked("referenceAt(2, 0)", Texts::told, tree -> tree.referenceAt(2, 0), 'X');
        Check.asked("referenceAt(2, 1), the last", Texts::told, tree -> tree.referenceAt(2, 1), 'I');
        Check.asked("referenceAt(29, 0)", ReferenceEdges::thirty, tree -> tree.referenceAt(29, 0), '2');
    }

    private static void referenceAtNoIndex() {
        Check.refusedBeyond("referenceAt of one sign", 0, 0, INDEX, ReferenceEdges::thirty,
                (tree, index) -> tree.referenceAt(29, index));
        Check.refusedBeyond("referenceAt of two signs", 0, 1, INDEX, Texts::told,
                (tree, index) -> tree.referenceAt(2, index));
        Check.refusedBeyond("referenceAt of seven signs", 0, 6, INDEX, () -> ends(4, 3),
                (tree, index) -> tree.referenceAt(0, index));
        Check.refusedBeyond("referenceAt to a plain one", 0, -1, INDEX, ReferenceEdges::plainTarget,
                (tree, index) -> tree.referenceAt(0, index));
        Check.refused("referenceAt(0, 0) to a plain one, behind a label that was asked", INDEX, () -> {
            NumberingTree tree = plainTarget();
            tree.labelLength(1);
            return tree;
        }, tree -> tree.referenceAt(0, 0));
    }

    private static void broken() {
        Check.asked("broken in an empty text", NumberingTree::new, NumberingTree::broken, 0);
        Check.asked("broken of whole ones", ReferenceEdges::thirty, NumberingTree::broken, 0);
        Check.asked("broken with a plain target", ReferenceEdges::plainTarget, NumberingTree::broken, 0);
        Check.asked("broken, one of three", Texts::told, NumberingTree::broken, 1);
        int[] due = {0, 30, 30, 0};
        for (int name = 0; name < 4; name++) {
            int removed = name;
            Check.asked("broken when " + name + " is removed", () -> {
                NumberingTree tree = thirty();
                tree.remove(removed);
                return tree;
            }, NumberingTree::broken, due[name]);
        }
        Check.asked("broken when both ends are removed", () -> {
            NumberingTree tree = thirty();
            tree.remove(1);
            tree.remove(2);
            return tree;
        }, NumberingTree::broken, 30);
    }
}
