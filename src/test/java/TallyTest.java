import java.util.NoSuchElementException;

/** Promises 28, 36, 37 and 39 to 41: what is found, counted and added up. */
public final class TallyTest {
    private static final Class<NoSuchElementException> ABSENT = NoSuchElementException.class;
    private static final Class<IllegalArgumentException> ARGUMENT = IllegalArgumentException.class;
    private static final Class<ArithmeticException> ARITHMETIC = ArithmeticException.class;

    public static void main(String[] args) {
        find();
        count();
        sum();
        share();
        everyShare();
        mean();
        Check.end("TallyTest");
    }

    private static NumberingTree small() {
        return Check.tree(1, 2, 2, 0, 1, 2);
    }

    /** Levels 1, 2, 2, 0, 1, 2, of which all but the plain one are frozen, and two lettered ones. */
    private static NumberingTree mixed() {
        NumberingTree tree = small();
        tree.freeze();
        tree.insert(0, 1);
        tree.insert(3, 2);
        return tree;
    }

    private static NumberingTree plain() {
        return Check.tree(0, 0);
    }

    private static void find() {
        NumberingTree tree = mixed();
        Check.same("find(1, 1)", tree.find(1, 1), 0);
        Check.same("find(1, 2)", tree.find(1, 2), 4);
        Check.same("find(2, 1), the first of two", tree.find(2, 1), 1);
        Check.same("find(2, 2)", tree.find(2, 2), 2);
        Check.same("find(1, 0) with letters alone", Check.thrownBy(() -> tree.find(1, 0)), ABSENT);
        Check.same("labels", Check.labels(tree), "0A 1 1.1 1.1A 1.2 - 2 2.1");
        Check.same("find at the first place", small().find(1, 1), 0);
        NumberingTree moved = small();
        moved.move(5, 1);
        Check.same("find by places, not by names", moved.find(2, 1), 5);
        Check.refused("find(0, 0)", ARGUMENT, TallyTest::small, t -> t.find(0, 0));
        Check.refused("find(5, 1)", ARGUMENT, TallyTest::small, t -> t.find(5, 1));
        Check.refused("find(3, 1)", ABSENT, TallyTest::small, t -> t.find(3, 1));
        Check.refused("find(1, 3)", ABSENT, TallyTest::small, t -> t.find(1, 3));
        Check.refused("find(1, -1)", ABSENT, TallyTest::small, t -> t.find(1, -1));
        Check.refused("find of a removed one", ABSENT, () -> {
            NumberingTree removed = small();
            removed.remove(2);
            return removed;
        }, t -> t.find(2, 2));
        Check.asked("find", TallyTest::small, t -> t.find(2, 2), 2);
    }

    private static void count() {
        NumberingTree tree = mixed();
        Check.same("count(p)", tree.count('p'), 1);
        Check.same("count(f)", tree.count('f'), 5);
        Check.same("count(o)", tree.count('o'), 2);
        tree.remove(3);
        tree.remove(2);
        tree.remove(6);
        Check.same("count(p) then", tree.count('p'), 0);
        Check.same("count(f) then", tree.count('f'), 4);
        Check.same("count(o) then", tree.count('o'), 1);
        Check.refused("count(x)", ARGUMENT, TallyTest::small, t -> t.count('x'));
        Check.refused("count(P)", ARGUMENT, TallyTest::small, t -> t.count('P'));
        Check.refused("count(0)", ARGUMENT, TallyTest::small, t -> t.count((char) 0));
        Check.asked("count", TallyTest::mixed, t -> t.count('o'), 2);
    }

    private static void sum() {
        NumberingTree tree = mixed();
        Check.same("sum", tree.sum(), 8L);
        tree.remove(5);
        Check.same("sum without one", tree.sum(), 7L);
        tree.setLevel(7, 0);
        Check.same("sum with another plain one", tree.sum(), 6L);
        Check.same("sum of all levels", Check.tree(1, 2, 3, 4, 4).sum(), 6L);
        Check.same("sum of plain ones", plain().sum(), 0L);
        Check.asked("sum", TallyTest::mixed, NumberingTree::sum, 8L);
    }

    private static void share() {
        Check.same("frozenShare of none that is frozen", small().frozenShare(), 0.0f);
        Check.same("shareBits of none that is frozen", small().shareBits(), 0);
        Check.same("frozenShare of all", Check.frozenTree(1, 0, 2).frozenShare(), 1.0f);
        Check.same("shareBits of all", Check.frozenTree(1, 0, 2).shareBits(), 0x3f800000);
        Check.asked("frozenShare", TallyTest::mixed, NumberingTree::frozenShare, 5.0f / 7.0f);
        Check.asked("shareBits", TallyTest::mixed, NumberingTree::shareBits, Float.floatToIntBits(5.0f / 7.0f));
        Check.refused("frozenShare of plain ones", ARITHMETIC, TallyTest::plain, NumberingTree::frozenShare);
        Check.refused("shareBits of plain ones", ARITHMETIC, TallyTest::plain, NumberingTree::shareBits);
        Check.refused("frozenShare of nothing", ARITHMETIC, NumberingTree::new, NumberingTree::frozenShare);
        Check.refused("shareBits of nothing", ARITHMETIC, NumberingTree::new, NumberingTree::shareBits);
    }

    /** Every share that 60 paragraphs can have: the frozen ones stand first, the others are below a lettered one. */
    private static void everyShare() {
        for (int frozen = 1; frozen < 59; frozen++) {
            NumberingTree tree = new NumberingTree();
            for (int i = 0; i < frozen; i++) {
                tree.insert(i, 1);
            }
            tree.freeze();
            for (int all = frozen + 1; all <= 60; all++) {
                tree.insert(0, 1);
                float due = (float) frozen / (float) all;
                Check.same("frozenShare of " + frozen + " of " + all, tree.frozenShare(), due);
                Check.same("shareBits of " + frozen + " of " + all, tree.shareBits(), Float.floatToIntBits(due));
            }
        }
    }

    private static void mean() {
        NumberingTree tree = mixed();
        Check.same("meanNumber(1)", tree.meanNumber(1), 1.0);
        Check.same("meanNumber(2)", tree.meanNumber(2), 5.0 / 4.0);
        NumberingTree thirds = Check.tree(1, 1, 1);
        thirds.reserve(1, 1);
        Check.same("meanNumber of thirds", thirds.meanNumber(1), 7.0 / 3.0);
        Check.refused("meanNumber(0)", ARGUMENT, TallyTest::small, t -> t.meanNumber(0));
        Check.refused("meanNumber(5)", ARGUMENT, TallyTest::small, t -> t.meanNumber(5));
        Check.refused("meanNumber(3)", ARITHMETIC, TallyTest::small, t -> t.meanNumber(3));
        Check.refused("meanNumber(1) of plain ones", ARITHMETIC, TallyTest::plain, t -> t.meanNumber(1));
        Check.asked("meanNumber", TallyTest::small, t -> t.meanNumber(1), 1.5);
    }
}
