import java.util.List;
import java.util.function.ObjIntConsumer;

/** The boundary cases of promises 10, 26, 27 and 38: formats and labels. */
final class LabelEdges {
    private static final Class<IllegalArgumentException> ARGUMENT = IllegalArgumentException.class;
    private static final Class<IllegalStateException> STATE = IllegalStateException.class;
    private static final Class<IndexOutOfBoundsException> INDEX = IndexOutOfBoundsException.class;

    private LabelEdges() {
    }

    static List<Edge> all() {
        return List.of(
                new Edge(10, "- `level`", LabelEdges::setFormatLevel),
                new Edge(10, "- `format`", LabelEdges::setFormatFormat),
                new Edge(10, "Returns", LabelEdges::setFormatReturns),
                new Edge(10, "Throws `IllegalArgumentException`", LabelEdges::setFormatOutOfRange),
                new Edge(26, "Returns", LabelEdges::labelLengthReturns),
                new Edge(26, "Throws `NoSuchElementException`",
                        () -> Texts.refusedNames("labelLength", NumberingTree::labelLength)),
                new Edge(26, "Throws `IllegalStateException`",
                        () -> refusedPlain("labelLength", NumberingTree::labelLength)),
                new Edge(27, "- `index`", LabelEdges::labelAtIndex),
                new Edge(27, "Throws `NoSuchElementException`",
                        () -> Texts.refusedNames("labelAt", (tree, name) -> tree.labelAt(name, 0))),
                new Edge(27, "Throws `IllegalStateException`",
                        () -> refusedPlain("labelAt", (tree, name) -> tree.labelAt(name, 0))),
                new Edge(27, "Throws `IndexOutOfBoundsException`", LabelEdges::labelAtNoIndex),
                new Edge(38, "`boolean isUnique()`", LabelEdges::isUnique));
    }

    private static void setFormatLevel() {
        for (int level = 1; level <= 4; level++) {
            NumberingTree tree = Check.tree(1, 2, 3, 4);
            Check.same("setFormat(" + level + ", l)", tree.setFormat(level, 'l'), 'd');
            StringBuilder due = new StringBuilder("1.1.1.1");
            due.setCharAt(2 * (level - 1), 'a');
            Check.same("label then", Check.label(tree, 3), due.toString());
        }
        Check.refusedBeyond("setFormat", 1, 4, ARGUMENT, Texts::told, (tree, level) -> tree.setFormat(level, 'd'));
        Check.refusedBeyond("setFormat", 1, 4, ARGUMENT, NumberingTree::new,
                (tree, level) -> tree.setFormat(level, 'R'));
    }

    private static void setFormatFormat() {
        String formats = "dlrR";
        String[] due = {"4", "d", "iv", "IV"};
        for (int i = 0; i < 4; i++) {
            NumberingTree tree = Texts.row(4, 2);
            tree.setFormat(2, formats.charAt(i));
            Check.same("label in the format " + formats.charAt(i), Check.label(tree, 3), due[i]);
        }
    }

    private static void setFormatReturns() {
        String formats = "dlrR";
        for (int level = 1; level <= 4; level++) {
            for (int i = 0; i < 16; i++) {
                NumberingTree tree = new NumberingTree();
                char first = formats.charAt(i / 4);
                char second = formats.charAt(i % 4);
                Check.same("setFormat of a new text", tree.setFormat(level, first), 'd');
                Check.same("setFormat to " + second, tree.setFormat(level, second), first);
                Check.same("setFormat once more", tree.setFormat(level, 'd'), second);
            }
        }
    }

    private static void setFormatOutOfRange() {
        String formats = "cekmqsQSDLI10 \n";
        for (char format : formats.toCharArray()) {
            Check.refused("setFormat(1, " + format + ")", ARGUMENT, Texts::told, tree -> tree.setFormat(1, format));
        }
        char[] far = {0, 'd' + 256, 'R' + 256, 0x7fff, 0xffff};
        for (char format : far) {
            Check.refused("setFormat(4, " + (int) format + ")", ARGUMENT, Texts::told,
                    tree -> tree.setFormat(4, format));
        }
        Check.refused("setFormat(0, x)", ARGUMENT, Texts::told, tree -> tree.setFormat(0, 'x'));
        Check.refused("setFormat(5, x)", ARGUMENT, Texts::told, tree -> tree.setFormat(5, 'x'));
    }

    private static void refusedPlain(String what, ObjIntConsumer<NumberingTree> call) {
        Check.refused(what + " of a plain one", STATE, Texts::told, tree -> call.accept(tree, 3));
        Check.refused(what + " of a plain one, the last", STATE, Texts::held, tree -> call.accept(tree, 5));
        Check.refused(what + " of a plain one, the first", STATE, Texts::full, tree -> call.accept(tree, 0));
        Check.refused(what + " of one that became plain", STATE, () -> {
            NumberingTree tree = Texts.told();
            tree.setLevel(5, 0);
            return tree;
        }, tree -> call.accept(tree, 5));
    }

    private static void labelLengthReturns() {
        Check.asked("labelLength of the shortest", Texts::single, tree -> tree.labelLength(0), 1);
        Check.asked("labelLength of four levels", () -> Check.tree(1, 2, 3, 4), tree -> tree.labelLength(3), 7);
        Check.asked("labelLength of the last of a full text", Texts::full, tree -> tree.labelLength(59), 8);
        Check.asked("labelLength with letters", Texts::held, tree -> tree.labelLength(7), 4);
        Check.asked("labelLength with the number 0 and one letter", NumberEdges::lettered,
                tree -> tree.labelLength(59), 2);
        Check.asked("labelLength with the number 0 and 26 letters, Z", NumberEdges::lettered,
                tree -> tree.labelLength(34), 2);
        Check.asked("labelLength with the number 0 and 27 letters, AA", NumberEdges::lettered,
                tree -> tree.labelLength(33), 3);
        Check.asked("labelLength of the longest", LabelEdges::longest, tree -> tree.labelLength(3), 51);
    }

    /** Four levels of 888, which has the most Roman signs: twelve. */
    private static NumberingTree longest() {
        NumberingTree tree = Check.tree(1, 2, 3, 4);
        for (int level = 1; level <= 4; level++) {
            tree.setFormat(level, level % 2 == 1 ? 'r' : 'R');
            tree.startAt(level - 1, 888);
        }
        return tree;
    }

    private static void labelAtIndex() {
        String due = "dccclxxxviii.DCCCLXXXVIII.dccclxxxviii.DCCCLXXXVIII";
        NumberingTree tree = longest();
        for (int index = 0; index < due.length(); index++) {
            Check.same("labelAt(3, " + index + ")", tree.labelAt(3, index), due.charAt(index));
        }
        Check.asked("labelAt(0, 0) of a single one", Texts::single, one -> one.labelAt(0, 0), '1');
        Check.asked("labelAt, the first", Texts::told, one -> one.labelAt(5, 0), 'X');
        Check.asked("labelAt, the last", Texts::told, one -> one.labelAt(5, 5), 'i');
        Check.asked("labelAt, a letter that is the last", Texts::held, one -> one.labelAt(7, 3), 'A');
    }

    private static void labelAtNoIndex() {
        Check.refusedBeyond("labelAt of a single one", 0, 0, INDEX, Texts::single, (tree, i) -> tree.labelAt(0, i));
        Check.refusedBeyond("labelAt of two signs", 0, 1, INDEX, Texts::told, (tree, i) -> tree.labelAt(0, i));
        Check.refusedBeyond("labelAt behind letters", 0, 3, INDEX, Texts::held, (tree, i) -> tree.labelAt(7, i));
        Check.refusedBeyond("labelAt of the longest", 0, 50, INDEX, LabelEdges::longest,
                (tree, i) -> tree.labelAt(3, i));
        Check.refusedBeyond("labelAt of the last of a full text", 0, 7, INDEX, Texts::full,
                (tree, i) -> tree.labelAt(59, i));
        Check.refused("labelAt behind a longer label that was asked just before", INDEX, () -> {
            NumberingTree tree = longest();
            tree.labelLength(3);
            return tree;
        }, tree -> tree.labelAt(0, 12));
    }

    private static void isUnique() {
        Check.asked("isUnique of an empty text", NumberingTree::new, NumberingTree::isUnique, true);
        Check.asked("isUnique of a single one", Texts::single, NumberingTree::isUnique, true);
        Check.asked("isUnique of plain ones", Texts::plain, NumberingTree::isUnique, true);
        Check.asked("isUnique of a full text", Texts::full, NumberingTree::isUnique, true);
        Check.asked("isUnique of 59 lettered ones", NumberEdges::lettered, NumberingTree::isUnique, true);
        Check.asked("isUnique of a label that two levels show", () -> Check.tree(2, 1), NumberingTree::isUnique, true);
        Check.asked("isUnique of the first and the last of 60", LabelEdges::twinsFarApart, NumberingTree::isUnique,
                false);
        Check.asked("isUnique when one of both is removed", () -> {
            NumberingTree tree = twinsFarApart();
            tree.remove(59);
            return tree;
        }, NumberingTree::isUnique, true);
        Check.asked("isUnique when one of both is plain", () -> {
            NumberingTree tree = twinsFarApart();
            tree.setLevel(59, 0);
            return tree;
        }, NumberingTree::isUnique, true);
        Check.asked("isUnique of 1 with 22 letters and 4 in great Roman numerals", () -> letteredFour('R'),
                NumberingTree::isUnique, false);
        Check.asked("isUnique of 1 with 22 letters and 4 in small ones", () -> letteredFour('r'),
                NumberingTree::isUnique, true);
    }

    /** A second level without a parent and the last one, which has one, both have a fourth level "1.1" below. */
    private static NumberingTree twinsFarApart() {
        NumberingTree tree = Check.tree(2, 4);
        for (int name = 2; name < 58; name++) {
            tree.insert(name, 0);
        }
        tree.insert(58, 1);
        tree.insert(59, 4);
        return tree;
    }

    /** "I" with 22 letters is "IV", which the paragraph 4 shows, too. */
    private static NumberingTree letteredFour(char format) {
        NumberingTree tree = Check.frozenTree(1, 1, 1, 1);
        tree.setFormat(1, format);
        for (int i = 0; i < 22; i++) {
            tree.insert(1, 1);
        }
        return tree;
    }
}
