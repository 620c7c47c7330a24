import java.util.List;
import java.util.NoSuchElementException;
import java.util.function.Consumer;
import java.util.function.Supplier;

/** The boundary cases of promises 28, 36, 37 and 39 to 41: what is found, counted and added up. */
final class TallyEdges {
    private static final Class<NoSuchElementException> ABSENT = NoSuchElementException.class;
    private static final Class<IllegalArgumentException> ARGUMENT = IllegalArgumentException.class;
    private static final Class<ArithmeticException> ARITHMETIC = ArithmeticException.class;

    private TallyEdges() {
    }

    static List<Edge> all() {
        return List.of(
                new Edge(28, "`int find(", TallyEdges::find),
                new Edge(28, "Throws `IllegalArgumentException`", TallyEdges::findLevel),
                new Edge(28, "Throws `NoSuchElementException`", TallyEdges::findNone),
                new Edge(36, "- `kind`", TallyEdges::count),
                new Edge(36, "Throws `IllegalArgumentException`", TallyEdges::countNoKind),
                new Edge(37, "Returns", TallyEdges::sum),
                new Edge(39, "Returns", TallyEdges::frozenShare),
                new Edge(39, "Throws `ArithmeticException`",
                        () -> refusedWithoutAny("frozenShare", NumberingTree::frozenShare)),
                new Edge(40, "Returns", TallyEdges::shareBits),
                new Edge(40, "Throws `ArithmeticException`",
                        () -> refusedWithoutAny("shareBits", NumberingTree::shareBits)),
                new Edge(41, "Returns", TallyEdges::meanNumber),
                new Edge(41, "Throws `IllegalArgumentException`", TallyEdges::meanNumberLevel),
                new Edge(41, "Throws `ArithmeticException`", TallyEdges::meanNumberNone));
    }

    private static void find() {
        Check.asked("find of a single one", Texts::single, tree -> tree.find(1, 1), 0);
        for (int level = 1; level <= 4; level++) {
            int each = level;
            Check.asked("find(" + level + ", 1), the first place", Texts::full, tree -> tree.find(each, 1), level);
            Check.asked("find(" + level + ", 60), the last place", () -> Texts.row(60, each),
                    tree -> tree.find(each, 60), 59);
        }
        Check.asked("find of the number of lettered ones", Texts::held, tree -> tree.find(2, 1), 1);
        Check.asked("find of the greatest start", () -> {
            NumberingTree tree = Texts.row(2, 3);
            tree.startAt(1, 999);
            return tree;
        }, tree -> tree.find(3, 999), 1);
        Check.asked("find by places, of a moved one", TallyEdges::lastNameFirst, tree -> tree.find(2, 1), 3);
        Check.asked("find of the first of two groups", () -> Check.tree(0, 2, 1, 2), tree -> tree.find(2, 1), 1);
    }

    private static NumberingTree lastNameFirst() {
        NumberingTree tree = Check.tree(1, 2, 2, 2);
        tree.move(3, 1);
        return tree;
    }

    private static void findLevel() {
        Check.refusedBeyond("find", 1, 4, ARGUMENT, Texts::told, (tree, level) -> tree.find(level, 11));
        Check.refusedBeyond("find of nothing", 1, 4, ARGUMENT, NumberingTree::new, (tree, level) -> tree.find(level, 1));
        Check.refused("find(0, 0) beside plain ones", ARGUMENT, Texts::plain, tree -> tree.find(0, 0));
    }

    private static void findNone() {
        Check.refusedBeyond("find", 1, 1, ABSENT, Texts::single, (tree, number) -> tree.find(1, number));
        Check.refusedBeyond("find among 60", 1, 60, ABSENT, () -> Texts.row(60, 2),
                (tree, number) -> tree.find(2, number));
        for (int level = 1; level <= 4; level++) {
            int each = level;
            Check.refused("find in an empty text", ABSENT, NumberingTree::new, tree -> tree.find(each, 1));
            Check.refused("find beside plain ones", ABSENT, Texts::plain, tree -> tree.find(each, 0));
            Check.refused("find when all are removed", ABSENT, Texts::spent, tree -> tree.find(each, 1));
        }
        Check.refused("find of the number 0, which has letters", ABSENT, NumberEdges::lettered,
                tree -> tree.find(1, 0));
        Check.refused("find of another level's number", ABSENT, Texts::told, tree -> tree.find(2, 11));
        Check.refused("find of a number that one had when it was not plain", ABSENT, () -> {
            NumberingTree tree = Check.tree(1, 1);
            tree.setLevel(1, 0);
            return tree;
        }, tree -> tree.find(1, 2));
        Check.refused("find of a removed one", ABSENT, Texts::held, tree -> tree.find(1, 3));
    }

    private static void count() {
        counted("an empty text", NumberingTree::new, 0, 0, 0);
        counted("a single one", Texts::single, 0, 0, 1);
        counted("plain ones", Texts::plain, 2, 0, 0);
        counted("removed ones", Texts::spent, 0, 0, 0);
        counted("a text with a removed one", Texts::told, 1, 0, 5);
        counted("a text with frozen ones", Texts::held, 1, 5, 1);
        counted("a full text", Texts::full, 12, 0, 48);
        counted("a full text with frozen ones", Texts::fullHeld, 12, 48, 0);
        counted("60 plain ones", () -> Texts.row(60, 0), 60, 0, 0);
        counted("59 lettered ones", NumberEdges::lettered, 0, 1, 59);
    }

    private static void counted(String what, Supplier<NumberingTree> maker, int plain, int frozen, int others) {
        Check.asked("count(p) of " + what, maker, tree -> tree.count('p'), plain);
        Check.asked("count(f) of " + what, maker, tree -> tree.count('f'), frozen);
        Check.asked("count(o) of " + what, maker, tree -> tree.count('o'), others);
    }

    private static void countNoKind() {
        char[] kinds = {'e', 'g', 'n', 'q', 'P', 'F', 'O', 'x', '0', 0, 'p' + 256, 'f' + 256, 0x7fff, 0xffff};
        for (char kind : kinds) {
            Check.refused("count(" + (int) kind + ")", ARGUMENT, Texts::held, tree -> tree.count(kind));
            Check.refused("count(" + (int) kind + ") of nothing", ARGUMENT, NumberingTree::new,
                    tree -> tree.count(kind));
        }
    }

    private static void sum() {
        Check.asked("sum of an empty text", NumberingTree::new, NumberingTree::sum, 0L);
        Check.asked("sum of plain ones", Texts::plain, NumberingTree::sum, 0L);
        Check.asked("sum of removed ones", Texts::spent, NumberingTree::sum, 0L);
        Check.asked("sum of a single one", Texts::single, NumberingTree::sum, 1L);
        Check.asked("sum of the number 0 alone but one", NumberEdges::lettered, NumberingTree::sum, 1L);
        Check.asked("sum of 1 to 60", () -> Texts.row(60, 4), NumberingTree::sum, 1830L);
        Check.asked("sum with letters", Texts::held, NumberingTree::sum, 8L);
        Check.asked("sum where one is removed and one is plain", Texts::told, NumberingTree::sum,
                11L + 12L + 15L + 15L + 16L);
        Check.asked("sum without one that became plain", () -> {
            NumberingTree tree = Texts.row(2, 3);
            tree.setLevel(1, 0);
            return tree;
        }, NumberingTree::sum, 1L);
        Check.asked("sum of all levels", Texts::full, NumberingTree::sum, 78L + 36L);
    }

    private static void frozenShare() {
        Check.asked("frozenShare of none", Texts::single, NumberingTree::frozenShare, 0.0f);
        Check.asked("frozenShare of all", Texts::fullHeld, NumberingTree::frozenShare, 1.0f);
        Check.asked("frozenShare of five of six", Texts::held, NumberingTree::frozenShare, 5.0f / 6.0f);
        Check.asked("frozenShare of the least", NumberEdges::lettered, NumberingTree::frozenShare, 1.0f / 60.0f);
        Check.asked("frozenShare of all but one", TallyEdges::allButOne, NumberingTree::frozenShare, 59.0f / 60.0f);
    }

    private static NumberingTree allButOne() {
        NumberingTree tree = Texts.row(59, 1);
        tree.freeze();
        tree.insert(59, 1);
        return tree;
    }

    private static void shareBits() {
        Check.asked("shareBits of none", Texts::single, NumberingTree::shareBits, 0);
        Check.asked("shareBits of all", Texts::fullHeld, NumberingTree::shareBits, 0x3f800000);
        Check.asked("shareBits of five of six", Texts::held, NumberingTree::shareBits, 0x3f555555);
        Check.asked("shareBits of the least", NumberEdges::lettered, NumberingTree::shareBits,
                Float.floatToIntBits(1.0f / 60.0f));
        Check.asked("shareBits of all but one", TallyEdges::allButOne, NumberingTree::shareBits,
                Float.floatToIntBits(59.0f / 60.0f));
        Check.asked("shareBits of a half", () -> {
            NumberingTree tree = Check.frozenTree(1);
            tree.insert(1, 1);
            return tree;
        }, NumberingTree::shareBits, 0x3f000000);
    }

    private static void refusedWithoutAny(String what, Consumer<NumberingTree> call) {
        Check.refused(what + " of an empty text", ARITHMETIC, NumberingTree::new, call);
        Check.refused(what + " of plain ones", ARITHMETIC, Texts::plain, call);
        Check.refused(what + " of 60 plain ones", ARITHMETIC, () -> Texts.row(60, 0), call);
        Check.refused(what + " when all are removed", ARITHMETIC, Texts::spent, call);
        Check.refused(what + " when the frozen one is removed", ARITHMETIC, () -> {
            NumberingTree tree = Check.frozenTree(1, 0);
            tree.remove(0);
            return tree;
        }, call);
    }

    private static void meanNumber() {
        Check.asked("meanNumber of a single one", Texts::single, tree -> tree.meanNumber(1), 1.0);
        Check.asked("meanNumber of the number 0 alone but one", NumberEdges::lettered, tree -> tree.meanNumber(1),
                1.0 / 60.0);
        for (int level = 1; level <= 4; level++) {
            int each = level;
            Check.asked("meanNumber(" + level + ") of 60", () -> Texts.row(60, each), tree -> tree.meanNumber(each),
                    30.5);
        }
        Check.asked("meanNumber with letters", Texts::held, tree -> tree.meanNumber(2), 4.0 / 3.0);
        Check.asked("meanNumber of two of a level with a start", Texts::told, tree -> tree.meanNumber(2), 13.5);
    }

    private static void meanNumberLevel() {
        Check.refusedBeyond("meanNumber", 1, 4, ARGUMENT, Texts::told, NumberingTree::meanNumber);
        Check.refusedBeyond("meanNumber of nothing", 1, 4, ARGUMENT, NumberingTree::new, NumberingTree::meanNumber);
        Check.refusedBeyond("meanNumber of plain ones", 1, 4, ARGUMENT, Texts::plain, NumberingTree::meanNumber);
    }

    private static void meanNumberNone() {
        for (int level = 1; level <= 4; level++) {
            int each = level;
            Check.refused("meanNumber in an empty text", ARITHMETIC, NumberingTree::new,
                    tree -> tree.meanNumber(each));
            Check.refused("meanNumber of plain ones", ARITHMETIC, Texts::plain, tree -> tree.meanNumber(each));
            Check.refused("meanNumber when all are removed", ARITHMETIC, Texts::spent,
                    tree -> tree.meanNumber(each));
            Check.refused("meanNumber of other levels", ARITHMETIC, () -> Check.tree(each % 4 + 1),
                    tree -> tree.meanNumber(each));
        }
    }
}
