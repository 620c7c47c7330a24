import java.util.NoSuchElementException;

/** Promises 1 to 5 and 14 to 19: what stands where, with which level and parent. */
public final class StructureTest {
    private static final Class<NoSuchElementException> ABSENT = NoSuchElementException.class;
    private static final Class<IllegalArgumentException> ARGUMENT = IllegalArgumentException.class;
    private static final Class<IllegalStateException> STATE = IllegalStateException.class;
    private static final Class<UnsupportedOperationException> HELD = UnsupportedOperationException.class;
    private static final Class<IndexOutOfBoundsException> INDEX = IndexOutOfBoundsException.class;

    public static void main(String[] args) {
        newObject();
        insert();
        insertUpToSixty();
        insertBesideFrozen();
        move();
        moveBesideFrozen();
        setLevel();
        setLevelBesideFrozen();
        remove();
        removeFrozen();
        places();
        parents();
        below();
        Check.end("StructureTest");
    }

    private static NumberingTree small() {
        return Check.tree(1, 2, 2, 0, 1);
    }

    /** Names 0 to 6; the plain one and the lettered 2.2 "1A" are not frozen. */
    private static NumberingTree frozen() {
        NumberingTree tree = Check.frozenTree(1, 2, 3, 2, 1, 0);
        tree.insert(3, 2);
        return tree;
    }

    private static NumberingTree without(int paragraph) {
        NumberingTree tree = small();
        tree.remove(paragraph);
        return tree;
    }

    private static void newObject() {
        NumberingTree tree = new NumberingTree();
        Check.same("size of a new object", tree.size(), 0);
        Check.same("references of a new object", tree.references(), 0);
        Check.same("broken of a new object", tree.broken(), 0);
        Check.same("used of a new object", tree.used(), 0);
        Check.same("sum of a new object", tree.sum(), 0L);
        Check.same("isUnique of a new object", tree.isUnique(), true);
        Check.same("freeze of a new object", tree.freeze(), 0);
        for (int level = 1; level <= 4; level++) {
            Check.same("format at first", tree.setFormat(level, 'l'), 'd');
            Check.same("going on at first", tree.setGoingOn(level, false), false);
            Check.same("skipped at first", tree.skip(level, 7), 1);
        }
        Check.same("first name", tree.insert(0, 4), 0);
        Check.same("start at first", tree.startAt(0, 3), 0);
        Check.same("reserved at first", tree.reserve(0, 3), 0);
    }

    private static void insert() {
        NumberingTree tree = new NumberingTree();
        Check.same("insert first", tree.insert(0, 1), 0);
        Check.same("insert at the front", tree.insert(0, 0), 1);
        Check.same("insert between", tree.insert(1, 4), 2);
        Check.same("insert at the end", tree.insert(3, 2), 3);
        Check.same("order", order(tree), "1 2 0 3");
        Check.same("levels", "" + tree.levelOf(1) + tree.levelOf(2) + tree.levelOf(0) + tree.levelOf(3), "0412");
        Check.refused("insert(-1, 1)", ARGUMENT, StructureTest::small, t -> t.insert(-1, 1));
        Check.refused("insert(6, 1)", ARGUMENT, StructureTest::small, t -> t.insert(6, 1));
        Check.refused("insert(0, -1)", ARGUMENT, StructureTest::small, t -> t.insert(0, -1));
        Check.refused("insert(0, 5)", ARGUMENT, StructureTest::small, t -> t.insert(0, 5));
        Check.refused("insert(max, min)", ARGUMENT, StructureTest::small,
                t -> t.insert(Integer.MAX_VALUE, Integer.MIN_VALUE));
    }

    /** A removed paragraph counts among the 60. */
    private static void insertUpToSixty() {
        NumberingTree tree = new NumberingTree();
        for (int i = 0; i < 59; i++) {
            tree.insert(i, i % 5);
        }
        tree.remove(30);
        Check.same("insert as the sixtieth", tree.insert(0, 1), 59);
        Check.same("size after 60 less one", tree.size(), 59);
        Check.same("insert as the 61st", Check.thrownBy(() -> tree.insert(0, 1)), STATE);
        Check.same("insert(60, 1) as the 61st", Check.thrownBy(() -> tree.insert(60, 1)), ARGUMENT);
        Check.same("insert(0, 5) as the 61st", Check.thrownBy(() -> tree.insert(0, 5)), ARGUMENT);
        Check.same("size afterwards", tree.size(), 59);
        tree.freeze();
        Check.same("insert as the 61st where a frozen one would lose its parent",
                Check.thrownBy(() -> tree.insert(tree.placeOf(2), 1)), STATE);
    }

    private static void insertBesideFrozen() {
        Check.refused("insert(1, 1) before a frozen child", HELD, StructureTest::frozen, t -> t.insert(1, 1));
        Check.refused("insert(2, 2) before a frozen child", HELD, StructureTest::frozen, t -> t.insert(2, 2));
        Check.refused("insert(3, 1) before a frozen one further on", HELD, StructureTest::frozen,
                t -> t.insert(3, 1));
        Check.refused("insert(9, 1)", ARGUMENT, StructureTest::frozen, t -> t.insert(9, 1));
        Check.same("insert(2, 3)", frozen().insert(2, 3), 7);
        Check.same("insert(2, 0)", frozen().insert(2, 0), 7);
        Check.same("insert(3, 2)", frozen().insert(3, 2), 7);
        Check.same("insert(5, 1)", frozen().insert(5, 1), 7);
        Check.same("insert(4, 3), whose parent is not frozen", frozen().insert(4, 3), 7);
        Check.refused("insert(0, 1) before frozen ones without a parent", HELD, () -> Check.frozenTree(2, 1),
                t -> t.insert(0, 1));
        Check.same("insert(0, 2) before them", Check.frozenTree(2, 1).insert(0, 2), 2);
        Check.same("insert(1, 1) behind them", Check.frozenTree(2, 1).insert(1, 1), 2);
    }

    private static void move() {
        NumberingTree tree = small();
        Check.same("move to the end", tree.move(0, 4), 0);
        Check.same("order", order(tree), "1 2 3 4 0");
        Check.same("move to the front", tree.move(0, 0), 4);
        Check.same("order again", order(tree), "0 1 2 3 4");
        Check.same("move to its place", tree.move(2, 2), 2);
        Check.same("order still", order(tree), "0 1 2 3 4");
        Check.same("move alone", tree.move(4, 1), 4);
        Check.same("labels", Check.labels(tree), "1 2 2.1 2.2 -");
        Check.refused("move(5, 0)", ABSENT, StructureTest::small, t -> t.move(5, 0));
        Check.refused("move(-1, -1)", ABSENT, StructureTest::small, t -> t.move(-1, -1));
        Check.refused("move of a removed one", ABSENT, () -> without(1), t -> t.move(1, 9));
        Check.refused("move(0, 5)", ARGUMENT, StructureTest::small, t -> t.move(0, 5));
        Check.refused("move(0, -1)", ARGUMENT, StructureTest::small, t -> t.move(0, -1));
    }

    private static void moveBesideFrozen() {
        Check.refused("move of a frozen one to its place", HELD, StructureTest::frozen, t -> t.move(2, 2));
        Check.refused("move of a frozen one out of range", ARGUMENT, StructureTest::frozen, t -> t.move(2, 7));
        Check.refused("move that parts a frozen one from its parent", HELD, StructureTest::frozen,
                t -> t.move(6, 2));
        Check.same("move of a plain one among frozen ones", frozen().move(5, 1), 6);
        Check.same("move of a lettered one to another place", frozen().move(6, 4), 3);
        Check.same("move that changes its own parent alone", frozen().move(6, 6), 3);
    }

    private static void setLevel() {
        NumberingTree tree = small();
        Check.same("setLevel(1, 1)", tree.setLevel(1, 1), 2);
        Check.same("labels then", Check.labels(tree), "1 2 2.1 - 3");
        Check.same("setLevel(1, 0)", tree.setLevel(1, 0), 1);
        Check.same("labels without it", Check.labels(tree), "1 - 1.1 - 2");
        Check.same("setLevel(3, 4)", tree.setLevel(3, 4), 0);
        Check.same("setLevel(3, 4) again", tree.setLevel(3, 4), 4);
        Check.same("labels with it", Check.labels(tree), "1 - 1.1 1.1.1 2");
        Check.refused("setLevel(5, 5)", ABSENT, StructureTest::small, t -> t.setLevel(5, 5));
        Check.refused("setLevel of a removed one", ABSENT, () -> without(1), t -> t.setLevel(1, 2));
        Check.refused("setLevel(0, 5)", ARGUMENT, StructureTest::small, t -> t.setLevel(0, 5));
        Check.refused("setLevel(0, -1)", ARGUMENT, StructureTest::small, t -> t.setLevel(0, -1));
    }

    private static void setLevelBesideFrozen() {
        Check.refused("setLevel of a frozen one", HELD, StructureTest::frozen, t -> t.setLevel(1, 3));
        Check.refused("setLevel of a frozen one to its level", HELD, StructureTest::frozen, t -> t.setLevel(1, 2));
        Check.refused("setLevel of a frozen one out of range", ARGUMENT, StructureTest::frozen,
                t -> t.setLevel(1, 5));
        Check.refused("setLevel that parts a frozen one from its parent", HELD, StructureTest::frozen,
                t -> t.setLevel(6, 1));
        Check.same("setLevel that parts none", frozen().setLevel(6, 4), 2);
        Check.same("setLevel of a plain one at the end", frozen().setLevel(5, 1), 0);
    }

    private static void remove() {
        NumberingTree tree = small();
        Check.same("remove(0)", tree.remove(0), 4);
        Check.same("order", order(tree), "1 2 3 4");
        Check.same("labels", Check.labels(tree), "1 2 - 1");
        Check.same("remove(4)", tree.remove(4), 3);
        Check.same("remove(2)", tree.remove(2), 2);
        Check.same("order then", order(tree), "1 3");
        Check.same("a name is not given again", tree.insert(1, 1), 5);
        Check.refused("remove(5)", ABSENT, StructureTest::small, t -> t.remove(5));
        Check.refused("remove(-1)", ABSENT, StructureTest::small, t -> t.remove(-1));
        Check.refused("remove again", ABSENT, () -> without(1), t -> t.remove(1));
    }

    private static void removeFrozen() {
        Check.refused("remove of a parent of frozen ones", HELD, StructureTest::frozen, t -> t.remove(0));
        Check.refused("remove of another parent of frozen ones", HELD, StructureTest::frozen, t -> t.remove(1));
        Check.refused("remove of the first before its child", HELD, () -> Check.frozenTree(1, 2), t -> t.remove(0));
        Check.same("remove of a frozen one without children", frozen().remove(2), 6);
        Check.same("remove of a lettered one", frozen().remove(6), 6);
        NumberingTree tree = frozen();
        tree.remove(2);
        tree.remove(6);
        Check.same("remove of a frozen one whose children are gone", tree.remove(1), 4);
        NumberingTree lettered = frozen();
        lettered.insert(2, 3);
        lettered.remove(2);
        Check.same("remove of a frozen one whose children are not frozen", lettered.remove(1), 6);
    }

    private static void places() {
        NumberingTree tree = small();
        tree.move(4, 0);
        Check.same("size", tree.size(), 5);
        for (int place = 0; place < 5; place++) {
            Check.same("placeOf paragraphAt", tree.placeOf(tree.paragraphAt(place)), place);
        }
        Check.same("paragraphAt(0)", tree.paragraphAt(0), 4);
        Check.same("placeOf(3)", tree.placeOf(3), 4);
        Check.refused("paragraphAt(-1)", INDEX, StructureTest::small, t -> t.paragraphAt(-1));
        Check.refused("paragraphAt(5)", INDEX, StructureTest::small, t -> t.paragraphAt(5));
        Check.refused("paragraphAt(4) of 4", INDEX, () -> without(0), t -> t.paragraphAt(4));
        Check.refused("placeOf(5)", ABSENT, StructureTest::small, t -> t.placeOf(5));
        Check.refused("placeOf(60)", ABSENT, StructureTest::small, t -> t.placeOf(60));
        Check.refused("placeOf(-1)", ABSENT, StructureTest::small, t -> t.placeOf(-1));
        Check.refused("placeOf of a removed one", ABSENT, () -> without(0), t -> t.placeOf(0));
        Check.refused("levelOf(5)", ABSENT, StructureTest::small, t -> t.levelOf(5));
        Check.refused("levelOf(-1)", ABSENT, StructureTest::small, t -> t.levelOf(-1));
        Check.refused("levelOf of a removed one", ABSENT, () -> without(0), t -> t.levelOf(0));
        Check.asked("size", StructureTest::small, NumberingTree::size, 5);
        Check.asked("levelOf", StructureTest::small, t -> t.levelOf(2), 2);
    }

    private static void parents() {
        NumberingTree tree = Check.tree(3, 2, 4, 3, 0, 4, 1, 4, 2, 2, 1);
        int[] due = {-1, -1, 1, 1, -9, 3, -1, 6, 6, 6, -1};
        for (int paragraph = 0; paragraph < due.length; paragraph++) {
            if (paragraph != 4) {
                Check.same("parentOf(" + paragraph + ")", tree.parentOf(paragraph), due[paragraph]);
            }
        }
        Check.refused("parentOf of a plain one", STATE, StructureTest::small, t -> t.parentOf(3));
        Check.refused("parentOf(5)", ABSENT, StructureTest::small, t -> t.parentOf(5));
        Check.refused("parentOf of a removed one", ABSENT, () -> without(3), t -> t.parentOf(3));
        Check.asked("parentOf", StructureTest::small, t -> t.parentOf(2), 0);
    }

    private static void below() {
        NumberingTree tree = Check.tree(1, 2, 3, 4, 0, 3, 2, 1, 4);
        int[] due = {5, 3, 1, 0, 0, 0, 0, 1, 0};
        for (int paragraph = 0; paragraph < due.length; paragraph++) {
            Check.same("below(" + paragraph + ")", tree.below(paragraph), due[paragraph]);
        }
        tree.remove(1);
        Check.same("below(0) then", tree.below(0), 4);
        Check.same("below(2) then", tree.below(2), 1);
        Check.refused("below(5)", ABSENT, StructureTest::small, t -> t.below(5));
        Check.refused("below of a removed one", ABSENT, () -> without(0), t -> t.below(0));
        Check.asked("below", StructureTest::small, t -> t.below(0), 2);
    }

    private static String order(NumberingTree tree) {
        StringBuilder text = new StringBuilder();
        for (int place = 0; place < tree.size(); place++) {
            text.append(place == 0 ? "" : " ").append(tree.paragraphAt(place));
        }
        return text.toString();
    }
}
