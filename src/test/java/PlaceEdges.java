import java.util.List;
import java.util.function.Supplier;

/** The boundary cases of promises 1 to 5 and 14 to 19: places, levels, parents. */
final class PlaceEdges {
    private static final Class<IllegalArgumentException> ARGUMENT = IllegalArgumentException.class;
    private static final Class<IllegalStateException> STATE = IllegalStateException.class;
    private static final Class<UnsupportedOperationException> HELD = UnsupportedOperationException.class;
    private static final Class<IndexOutOfBoundsException> INDEX = IndexOutOfBoundsException.class;

    private PlaceEdges() {
    }

    static List<Edge> all() {
        return List.of(
                new Edge(1, "`NumberingTree()`: Creates a text without paragraphs", PlaceEdges::newText),
                new Edge(2, "- `place`", PlaceEdges::insertPlace),
                new Edge(2, "- `level`", PlaceEdges::insertLevel),
                new Edge(2, "Returns", PlaceEdges::insertReturns),
                new Edge(2, "Throws `IllegalArgumentException`", PlaceEdges::insertOutOfRange),
                new Edge(2, "Throws `IllegalStateException`", PlaceEdges::insertSixtyFirst),
                new Edge(2, "Throws `UnsupportedOperationException`", PlaceEdges::insertAboveFrozen),
                new Edge(3, "`int move(", PlaceEdges::moveAlone),
                new Edge(3, "- `place`", PlaceEdges::movePlace),
                new Edge(3, "Returns", PlaceEdges::moveReturns),
                new Edge(3, "Throws `NoSuchElementException`",
                        () -> Texts.refusedNames("move", (tree, name) -> tree.move(name, 0))),
                new Edge(3, "Throws `IllegalArgumentException`", PlaceEdges::moveOutOfRange),
                new Edge(3, "Throws `UnsupportedOperationException`", PlaceEdges::moveFrozen),
                new Edge(4, "- `level`", PlaceEdges::setLevelLevel),
                new Edge(4, "Returns", PlaceEdges::setLevelReturns),
                new Edge(4, "Throws `NoSuchElementException`",
                        () -> Texts.refusedNames("setLevel", (tree, name) -> tree.setLevel(name, 2))),
                new Edge(4, "Throws `IllegalArgumentException`", PlaceEdges::setLevelOutOfRange),
                new Edge(4, "Throws `UnsupportedOperationException`", PlaceEdges::setLevelFrozen),
                new Edge(5, "`int remove(", PlaceEdges::removeAlone),
                new Edge(5, "Returns", PlaceEdges::removeReturns),
                new Edge(5, "Throws `NoSuchElementException`",
                        () -> Texts.refusedNames("remove", NumberingTree::remove)),
                new Edge(5, "Throws `UnsupportedOperationException`", PlaceEdges::removeAboveFrozen),
                new Edge(14, "`int size()`", PlaceEdges::size),
                new Edge(15, "Returns", PlaceEdges::paragraphAtReturns),
                new Edge(15, "Throws `IndexOutOfBoundsException`", PlaceEdges::paragraphAtNoPlace),
                new Edge(16, "Returns", PlaceEdges::placeOfReturns),
                new Edge(16, "Throws `NoSuchElementException`",
                        () -> Texts.refusedNames("placeOf", NumberingTree::placeOf)),
                new Edge(17, "Returns", PlaceEdges::levelOfReturns),
                new Edge(17, "Throws `NoSuchElementException`",
                        () -> Texts.refusedNames("levelOf", NumberingTree::levelOf)),
                new Edge(18, "Returns", PlaceEdges::parentOfReturns),
                new Edge(18, "Throws `NoSuchElementException`",
                        () -> Texts.refusedNames("parentOf", NumberingTree::parentOf)),
                new Edge(18, "Throws `IllegalStateException`", PlaceEdges::parentOfPlain),
                new Edge(19, "Returns", PlaceEdges::belowReturns),
                new Edge(19, "Throws `NoSuchElementException`",
                        () -> Texts.refusedNames("below", NumberingTree::below)));
    }

    private static void newText() {
        Supplier<NumberingTree> made = NumberingTree::new;
        Check.asked("size", made, NumberingTree::size, 0);
        Check.asked("references", made, NumberingTree::references, 0);
        Check.asked("broken", made, NumberingTree::broken, 0);
        Check.asked("used", made, NumberingTree::used, 0);
        Check.asked("sum", made, NumberingTree::sum, 0L);
        Check.asked("isUnique", made, NumberingTree::isUnique, true);
        Check.asked("count(p)", made, tree -> tree.count('p'), 0);
        Check.asked("count(f)", made, tree -> tree.count('f'), 0);
        Check.asked("count(o)", made, tree -> tree.count('o'), 0);
        Check.asked("freeze", made, NumberingTree::freeze, 0);
        for (int level = 1; level <= 4; level++) {
            int each = level;
            Check.taken("format of " + level, made, tree -> tree.setFormat(each, 'd'), 'd');
            Check.taken("going on of " + level, made, tree -> tree.setGoingOn(each, true), false);
            Check.taken("skip of " + level, made, tree -> tree.skip(each, 1), 1);
            Check.refused("unskip of " + level, STATE, made, tree -> tree.unskip(each, 1));
        }
        NumberingTree one = new NumberingTree();
        one.insert(0, 1);
        Check.same("size of another new one", new NumberingTree().size(), 0);
    }

    private static void insertPlace() {
        int[] sizes = {0, 1, 2, 59};
        for (int size : sizes) {
            Supplier<NumberingTree> maker = () -> Texts.row(size, 2);
            for (int place = 0; place <= size; place++) {
                insertedAt(maker.get(), size, place);
            }
            Check.refusedBeyond("insert among " + size, 0, size, ARGUMENT, maker, (tree, at) -> tree.insert(at, 2));
        }
        Check.refusedBeyond("insert where one is removed", 0, 6, ARGUMENT, Texts::told,
                (tree, at) -> tree.insert(at, 1));
    }

    private static void insertedAt(NumberingTree tree, int size, int place) {
        Check.same("insert at " + place + " of " + size, tree.insert(place, 1), size);
        Check.same("size", tree.size(), size + 1);
        for (int at = 0; at <= size; at++) {
            int due = at < place ? at : at == place ? size : at - 1;
            Check.same("paragraphAt(" + at + ")", tree.paragraphAt(at), due);
            Check.same("placeOf(" + due + ")", tree.placeOf(due), at);
        }
    }

    private static void insertLevel() {
        for (int level = 0; level <= 4; level++) {
            NumberingTree tree = Texts.told();
            tree.insert(6, level);
            Check.same("levelOf then", tree.levelOf(7), level);
        }
        Check.refusedBeyond("insert", 0, 4, ARGUMENT, Texts::told, (tree, level) -> tree.insert(0, level));
        Check.refusedBeyond("insert", 0, 4, ARGUMENT, NumberingTree::new, (tree, level) -> tree.insert(0, level));
    }

    private static void insertReturns() {
        NumberingTree tree = new NumberingTree();
        for (int name = 0; name < 60; name++) {
            Check.same("insert at the front", tree.insert(0, name % 5), name);
        }
        NumberingTree removed = Texts.row(3, 1);
        removed.remove(2);
        Check.same("insert when the last one is removed", removed.insert(2, 1), 3);
        NumberingTree refused = Texts.held();
        Check.same("insert refused", Check.thrownBy(() -> refused.insert(2, 1)), HELD);
        Check.same("insert refused", Check.thrownBy(() -> refused.insert(8, 1)), ARGUMENT);
        Check.same("a refused call gives no name", refused.insert(7, 1), 8);
    }

    private static void insertOutOfRange() {
        Check.refused("insert(-1, 0)", ARGUMENT, Texts::told, tree -> tree.insert(-1, 0));
        Check.refused("insert(7, 4)", ARGUMENT, Texts::told, tree -> tree.insert(7, 4));
        Check.refused("insert(0, -1)", ARGUMENT, Texts::told, tree -> tree.insert(0, -1));
        Check.refused("insert(6, 5)", ARGUMENT, Texts::told, tree -> tree.insert(6, 5));
        Check.refused("insert(-1, 5)", ARGUMENT, Texts::told, tree -> tree.insert(-1, 5));
        Check.refused("insert(7, -1)", ARGUMENT, Texts::told, tree -> tree.insert(7, -1));
        Check.refused("insert(1, 1) into an empty text", ARGUMENT, NumberingTree::new, tree -> tree.insert(1, 1));
    }

    private static void insertSixtyFirst() {
        Check.taken("insert of the sixtieth", () -> Texts.row(59, 1), tree -> tree.insert(59, 0), 59);
        for (int level = 0; level <= 4; level++) {
            int each = level;
            Check.refused("insert(60, " + level + ") of the 61st", STATE, Texts::full, tree -> tree.insert(60, each));
            Check.refused("insert(0, " + level + ") of the 61st", STATE, Texts::full, tree -> tree.insert(0, each));
        }
        Check.refused("insert when all 60 are removed", STATE, Texts::spent, tree -> tree.insert(0, 1));
        Check.refused("insert of the 61st plain one", STATE, () -> Texts.row(60, 0), tree -> tree.insert(0, 0));
        Check.refused("insert when the 60th is removed", STATE, () -> {
            NumberingTree tree = Texts.row(60, 1);
            tree.remove(59);
            return tree;
        }, tree -> tree.insert(59, 1));
    }

    private static void insertAboveFrozen() {
        insertAround("ahead of a frozen one without a parent", 0, "ttttt", 1);
        insertAround("ahead of a frozen one without a parent", 0, "tHttt", 2);
        insertAround("ahead of a frozen one without a parent", 0, "tHHHt", 4);
        insertAround("behind a frozen one", 1, "ttttt", 4);
        insertAround("ahead of a frozen parent", 0, "ttttt", 1, 2);
        insertAround("between a frozen parent and its child", 1, "tHttt", 1, 2);
        insertAround("between a frozen parent and its child", 1, "tHHtt", 1, 3);
        insertAround("between a frozen parent and its child", 1, "tHHHt", 1, 4);
        insertAround("between a frozen parent and its child", 1, "tHHHt", 3, 4);
        insertAround("between two frozen children", 2, "tHHtt", 1, 3, 3);
        insertAround("between two frozen children", 2, "tHttt", 1, 3, 2);
        insertAround("ahead of a child of a child, and of a child", 2, "tHHtt", 1, 2, 3, 2);
        insertAround("ahead of a child, behind a child of a child", 3, "tHttt", 1, 2, 3, 2);
        insertAround("far ahead of a frozen child", 1, "tHHtt", 1, 0, 0, 3);
        insertAround("ahead of frozen ones that have a nearer parent", 1, "ttttt", 1, 1, 2, 3);
        NumberingTree lettered = Texts.held();
        lettered.insert(4, 3);
        Check.same("insert between two that are not frozen", lettered.insert(4, 3), 9);
    }

    /** For each level from 0, a t or an H tells whether it is taken or a frozen paragraph holds it off. */
    private static void insertAround(String what, int place, String due, int... levels) {
        for (int level = 0; level <= 4; level++) {
            int each = level;
            String told = "insert of level " + level + " at " + place + ", " + what;
            if (due.charAt(level) == 't') {
                Check.taken(told, () -> Check.frozenTree(levels), tree -> tree.insert(place, each), levels.length);
            } else {
                Check.refused(told, HELD, () -> Check.frozenTree(levels), tree -> tree.insert(place, each));
            }
        }
    }

    private static void moveAlone() {
        NumberingTree tree = Check.tree(1, 2, 3, 1);
        tree.move(0, 3);
        Check.same("children stay where they are", Check.labels(tree), "1 1.1 1 2");
        Check.same("below one that has moved behind them", tree.below(0), 0);
        tree.move(0, 0);
        Check.same("children once more", Check.labels(tree), "1 1.1 1.1.1 2");
    }

    private static void movePlace() {
        int[] sizes = {1, 2, 60};
        for (int size : sizes) {
            Supplier<NumberingTree> maker = () -> Texts.row(size, 1);
            for (int place = 0; place < size; place++) {
                movedTo(maker.get(), size, 0, place);
                movedTo(maker.get(), size, size - 1, place);
                movedTo(maker.get(), size, size / 2, place);
            }
        }
    }

    private static void movedTo(NumberingTree tree, int size, int name, int place) {
        Check.same("move(" + name + ", " + place + ") of " + size, tree.move(name, place), name);
        int other = 0;
        for (int at = 0; at < size; at++) {
            other += other == name ? 1 : 0;
            int due = at == place ? name : other++;
            Check.same("paragraphAt(" + at + ")", tree.paragraphAt(at), due);
            Check.same("placeOf(" + due + ")", tree.placeOf(due), at);
        }
        Check.same("size", tree.size(), size);
    }

    private static void moveReturns() {
        Check.asked("move of a single one", Texts::single, tree -> tree.move(0, 0), 0);
        Check.asked("move of the first to its place", Texts::full, tree -> tree.move(0, 0), 0);
        Check.asked("move of the last to its place", Texts::full, tree -> tree.move(59, 59), 59);
        Check.taken("move of the last to the front", Texts::full, tree -> tree.move(59, 0), 59);
        Check.taken("move of the first to the end", Texts::full, tree -> tree.move(0, 59), 0);
    }

    private static void moveOutOfRange() {
        Check.refusedBeyond("move of a single one", 0, 0, ARGUMENT, Texts::single, (tree, at) -> tree.move(0, at));
        Check.refusedBeyond("move where one is removed", 0, 5, ARGUMENT, Texts::told, (tree, at) -> tree.move(5, at));
        Check.refusedBeyond("move in a full text", 0, 59, ARGUMENT, Texts::full, (tree, at) -> tree.move(30, at));
        Check.taken("move to the last place", Texts::told, tree -> tree.move(0, 5), 0);
    }

    private static void moveFrozen() {
        for (int name = 0; name <= 4; name++) {
            for (int place = 0; place < 7; place++) {
                int frozen = name;
                int at = place;
                Check.refused("move(" + name + ", " + place + ") of a frozen one", HELD, Texts::held,
                        tree -> tree.move(frozen, at));
            }
        }
        for (int place = 0; place < 7; place++) {
            int at = place;
            Check.taken("move(5, " + place + ") of a plain one", Texts::held, tree -> tree.move(5, at), 6);
            if (place != 2) {
                Check.taken("move(7, " + place + ") of a lettered one", Texts::held, tree -> tree.move(7, at), 3);
            }
        }
        Check.refused("move(7, 2) between a frozen parent and its child", HELD, Texts::held, tree -> tree.move(7, 2));
        Supplier<NumberingTree> behind = () -> {
            NumberingTree tree = Check.frozenTree(2);
            tree.insert(1, 1);
            return tree;
        };
        Check.refused("move ahead of a frozen one without a parent", HELD, behind, tree -> tree.move(1, 0));
        Check.taken("move to its place behind it", behind, tree -> tree.move(1, 1), 1);
    }

    private static void setLevelLevel() {
        for (int from = 0; from <= 4; from++) {
            for (int to = 0; to <= 4; to++) {
                NumberingTree tree = Check.tree(1, from, 2);
                Check.same("setLevel from " + from + " to " + to, tree.setLevel(1, to), from);
                Check.same("levelOf then", tree.levelOf(1), to);
                Check.same("placeOf then", tree.placeOf(1), 1);
            }
        }
    }

    private static void setLevelReturns() {
        for (int level = 0; level <= 4; level++) {
            int each = level;
            Check.asked("setLevel to its level " + level, () -> Check.tree(1, each, 2), tree -> tree.setLevel(1, each),
                    level);
        }
    }

    private static void setLevelOutOfRange() {
        Check.refusedBeyond("setLevel", 0, 4, ARGUMENT, Texts::told, (tree, level) -> tree.setLevel(1, level));
        Check.refusedBeyond("setLevel of a plain one", 0, 4, ARGUMENT, Texts::told,
                (tree, level) -> tree.setLevel(3, level));
        Check.refusedBeyond("setLevel in a full text", 0, 4, ARGUMENT, Texts::full,
                (tree, level) -> tree.setLevel(59, level));
    }

    private static void setLevelFrozen() {
        for (int name = 0; name <= 4; name++) {
            for (int level = 0; level <= 4; level++) {
                int frozen = name;
                int each = level;
                Check.refused("setLevel(" + name + ", " + level + ") of a frozen one", HELD, Texts::held,
                        tree -> tree.setLevel(frozen, each));
            }
        }
        setLevelBetween("a lettered one ahead of a frozen child", "tHttt", Texts::held, 7);
        setLevelBetween("a plain one behind all", "ttttt", Texts::held, 5);
        setLevelBetween("a plain one between a frozen parent and its child", "tHHtt", () -> between(1, 3), 2);
        setLevelBetween("a plain one between a frozen parent and its child", "tHttt", () -> between(1, 2), 2);
        setLevelBetween("a plain one between two frozen ones of a level", "ttttt", () -> between(1, 1), 2);
        setLevelBetween("a plain one ahead of a frozen one without a parent", "tHHHt", () -> ahead(4), 1);
        setLevelBetween("a plain one ahead of a frozen one without a parent", "tHttt", () -> ahead(2), 1);
        setLevelBetween("a plain one ahead of a frozen one of the first level", "ttttt", () -> ahead(1), 1);
    }

    private static NumberingTree between(int first, int second) {
        NumberingTree tree = Check.frozenTree(first, second);
        tree.insert(1, 0);
        return tree;
    }

    private static NumberingTree ahead(int level) {
        NumberingTree tree = Check.frozenTree(level);
        tree.insert(0, 0);
        return tree;
    }

    private static void setLevelBetween(String what, String due, Supplier<NumberingTree> maker, int name) {
        for (int level = 0; level <= 4; level++) {
            int each = level;
            String told = "setLevel to " + level + " of " + what;
            if (due.charAt(level) == 't') {
                Check.taken(told, maker, tree -> tree.setLevel(name, each), maker.get().levelOf(name));
            } else {
                Check.refused(told, HELD, maker, tree -> tree.setLevel(name, each));
            }
        }
    }

    private static void removeAlone() {
        NumberingTree tree = Check.tree(1, 2, 3, 3);
        tree.remove(1);
        Check.same("those below it stay", Check.labels(tree), "1 1.1 1.2");
        tree.remove(0);
        Check.same("also without any above", Check.labels(tree), "1 2");
    }

    private static void removeReturns() {
        Check.taken("remove of a single one", Texts::single, tree -> tree.remove(0), 0);
        Check.taken("remove of a plain one", Texts::told, tree -> tree.remove(3), 5);
        NumberingTree tree = Texts.full();
        for (int left = 59; left >= 0; left--) {
            int name = tree.paragraphAt(left % 3 == 0 ? left : 0);
            Check.same("remove(" + name + ")", tree.remove(name), left);
        }
        Check.same("size of none", tree.size(), 0);
    }

    private static void removeAboveFrozen() {
        Check.refused("remove(0), the parent of frozen ones", HELD, Texts::held, tree -> tree.remove(0));
        Check.refused("remove(1), the parent of one", HELD, Texts::held, tree -> tree.remove(1));
        int[] others = {2, 7, 3, 4, 5};
        for (int name : others) {
            Check.taken("remove(" + name + ")", Texts::held, tree -> tree.remove(name), 6);
        }
        Check.refused("remove of a parent whose child would have none", HELD, () -> Check.frozenTree(3, 4),
                tree -> tree.remove(0));
        Check.refused("remove of a parent behind its like", HELD, () -> Check.frozenTree(1, 1, 2),
                tree -> tree.remove(1));
        Check.taken("remove of the like", () -> Check.frozenTree(1, 1, 2), tree -> tree.remove(0), 2);
        Check.refused("remove of a parent far ahead", HELD, () -> Check.frozenTree(1, 0, 0, 4), tree -> tree.remove(0));
        NumberingTree tree = Check.frozenTree(1, 2, 3);
        Check.same("remove of the child of a child", tree.remove(2), 2);
        Check.same("remove of the child then", tree.remove(1), 1);
        Check.same("remove of the parent then", tree.remove(0), 0);
    }

    private static void size() {
        Check.asked("size of an empty text", NumberingTree::new, NumberingTree::size, 0);
        Check.asked("size of a single one", Texts::single, NumberingTree::size, 1);
        Check.asked("size of plain ones", Texts::plain, NumberingTree::size, 2);
        Check.asked("size where one is removed", Texts::told, NumberingTree::size, 6);
        Check.asked("size where a frozen one is removed", Texts::held, NumberingTree::size, 7);
        Check.asked("size of a full text", Texts::full, NumberingTree::size, 60);
        Check.asked("size when all are removed", Texts::spent, NumberingTree::size, 0);
    }

    private static void paragraphAtReturns() {
        Check.asked("paragraphAt(0) of a single one", Texts::single, tree -> tree.paragraphAt(0), 0);
        Check.asked("paragraphAt(0) of a full text", Texts::full, tree -> tree.paragraphAt(0), 0);
        Check.asked("paragraphAt(59) of a full text", Texts::full, tree -> tree.paragraphAt(59), 59);
        Check.asked("paragraphAt(6) with letters", Texts::held, tree -> tree.paragraphAt(3), 7);
        Check.asked("paragraphAt, the last one", Texts::held, tree -> tree.paragraphAt(6), 5);
    }

    private static void paragraphAtNoPlace() {
        Check.refusedBeyond("paragraphAt", 0, 0, INDEX, Texts::single, NumberingTree::paragraphAt);
        Check.refusedBeyond("paragraphAt where one is removed", 0, 5, INDEX, Texts::told, NumberingTree::paragraphAt);
        Check.refusedBeyond("paragraphAt of a full text", 0, 59, INDEX, Texts::full, NumberingTree::paragraphAt);
        Check.refusedBeyond("paragraphAt of an empty text", 0, -1, INDEX, NumberingTree::new,
                NumberingTree::paragraphAt);
        Check.refusedBeyond("paragraphAt when all are removed", 0, -1, INDEX, Texts::spent,
                NumberingTree::paragraphAt);
    }

    private static void placeOfReturns() {
        Check.asked("placeOf a single one", Texts::single, tree -> tree.placeOf(0), 0);
        Check.asked("placeOf the first", Texts::full, tree -> tree.placeOf(0), 0);
        Check.asked("placeOf the last", Texts::full, tree -> tree.placeOf(59), 59);
        Check.asked("placeOf one that was put between", Texts::held, tree -> tree.placeOf(7), 3);
        Check.asked("placeOf the one behind it", Texts::held, tree -> tree.placeOf(3), 4);
    }

    private static void levelOfReturns() {
        for (int level = 0; level <= 4; level++) {
            int each = level;
            Check.asked("levelOf", () -> Check.tree(each), tree -> tree.levelOf(0), level);
            Check.asked("levelOf the last", () -> Check.tree(1, 0, each), tree -> tree.levelOf(2), level);
        }
        Check.asked("levelOf the last of a full text", Texts::full, tree -> tree.levelOf(59), 4);
    }

    private static void parentOfReturns() {
        for (int level = 1; level <= 4; level++) {
            int each = level;
            Check.asked("parentOf a single one", () -> Check.tree(each), tree -> tree.parentOf(0), -1);
            Check.asked("parentOf one behind its like", () -> Check.tree(each, each), tree -> tree.parentOf(1), -1);
            Check.asked("parentOf one behind a plain one", () -> Check.tree(0, each), tree -> tree.parentOf(1), -1);
        }
        for (int level = 2; level <= 4; level++) {
            int each = level;
            Check.asked("parentOf one behind the next level", () -> Check.tree(each - 1, each),
                    tree -> tree.parentOf(1), 0);
            Check.asked("parentOf one behind the first level", () -> Check.tree(1, each), tree -> tree.parentOf(1), 0);
            Check.asked("parentOf one ahead of the first level", () -> Check.tree(each, 1), tree -> tree.parentOf(0),
                    -1);
        }
        Check.asked("parentOf the last of a full text", Texts::full, tree -> tree.parentOf(59), 58);
        Check.asked("parentOf the last, far behind the first", () -> {
            NumberingTree tree = Texts.row(58, 4);
            tree.insert(0, 1);
            tree.insert(59, 2);
            return tree;
        }, tree -> tree.parentOf(59), 58);
    }

    private static void parentOfPlain() {
        Check.refused("parentOf a plain one", STATE, Texts::told, tree -> tree.parentOf(3));
        Check.refused("parentOf a plain one, the first", STATE, Texts::full, tree -> tree.parentOf(0));
        Check.refused("parentOf one that became plain", STATE, () -> {
            NumberingTree tree = Texts.told();
            tree.setLevel(1, 0);
            return tree;
        }, tree -> tree.parentOf(1));
        Check.taken("parentOf one that is plain no more", () -> {
            NumberingTree tree = Texts.told();
            tree.setLevel(3, 2);
            return tree;
        }, tree -> tree.parentOf(3), 0);
    }

    private static void belowReturns() {
        Check.asked("below a single one", Texts::single, tree -> tree.below(0), 0);
        Check.asked("below a plain one", () -> Check.tree(0, 1, 2), tree -> tree.below(0), 0);
        Check.asked("below the only one of the level above", () -> {
            NumberingTree tree = Texts.row(59, 2);
            tree.insert(0, 1);
            return tree;
        }, tree -> tree.below(59), 59);
        Check.asked("below the last", Texts::full, tree -> tree.below(59), 0);
        Check.asked("below all four levels", () -> Check.tree(1, 2, 3, 4), tree -> tree.below(0), 3);
        Check.asked("below the second level", () -> Check.tree(1, 2, 3, 4, 2, 3), tree -> tree.below(1), 2);
        Check.asked("below the lowest level", () -> Check.tree(4, 4), tree -> tree.below(0), 0);
        Check.asked("below with plain ones between", () -> Check.tree(1, 0, 2, 0, 1), tree -> tree.below(0), 1);
    }
}
