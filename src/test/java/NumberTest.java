import java.util.NoSuchElementException;

/** Promises 6 to 9, 11, 12, 20 to 25 and 35: numbers, letters, and what was used. */
public final class NumberTest {
    private static final Class<NoSuchElementException> ABSENT = NoSuchElementException.class;
    private static final Class<IllegalArgumentException> ARGUMENT = IllegalArgumentException.class;
    private static final Class<IllegalStateException> STATE = IllegalStateException.class;
    private static final Class<UnsupportedOperationException> HELD = UnsupportedOperationException.class;

    public static void main(String[] args) {
        groups();
        startAt();
        reserve();
        startAndReserve();
        skip();
        unskip();
        skipAndFrozen();
        setGoingOn();
        freeze();
        freezeBelowLettered();
        freezeThatRenumbers();
        betweenFrozen();
        betweenFrozenWithSkipped();
        usedNumbers();
        groupsKeepTheirUsed();
        allThatCanBeTaken();
        walkedSameAsKept();
        ahead();
        wrongInputs();
        Check.end("NumberTest");
    }

    private static NumberingTree small() {
        return Check.tree(1, 2, 2, 0, 1);
    }

    private static NumberingTree frozen() {
        return Check.frozenTree(1, 2, 2, 0, 1);
    }

    private static NumberingTree without(int paragraph) {
        NumberingTree tree = small();
        tree.remove(paragraph);
        return tree;
    }

    private static NumberingTree skipped(int level, int number) {
        NumberingTree tree = small();
        tree.skip(level, number);
        return tree;
    }

    private static void numbers(String what, NumberingTree tree, String due) {
        Check.same(what, Check.labels(tree), due);
        for (int place = 0; place < tree.size(); place++) {
            int paragraph = tree.paragraphAt(place);
            if (tree.levelOf(paragraph) != 0) {
                Check.same(what + ": numberByWalk", tree.numberByWalk(paragraph), tree.numberOf(paragraph));
                Check.same(what + ": lettersByWalk", tree.lettersByWalk(paragraph), tree.lettersOf(paragraph));
            }
        }
    }

    private static void groups() {
        numbers("numbers of each group", Check.tree(2, 2, 1, 2, 3, 3, 2, 1, 2, 4, 3, 4, 0, 4),
                "1 2 1 1.1 1.1.1 1.1.2 1.2 2 2.1 2.1.1 2.1.1 2.1.1.1 - 2.1.1.2");
        numbers("one level skipped over", Check.tree(1, 3, 3, 2, 3, 1, 4), "1 1.1 1.2 1.1 1.1.1 2 2.1");
        NumberingTree last = Check.tree(2, 3, 2);
        for (int i = 3; i < 59; i++) {
            last.insert(i, 0);
        }
        last.setGoingOn(3, true);
        last.insert(0, 1);
        Check.same("the group below the last paragraph", last.ahead(2), 0);
        Check.same("the group of the next level, which goes on", last.ahead(1), -1);
    }

    private static void startAt() {
        NumberingTree tree = small();
        Check.same("startAt(2, 5)", tree.startAt(2, 5), 0);
        numbers("with a start", tree, "1 1.1 1.5 - 2");
        Check.same("startAt(0, 999)", tree.startAt(0, 999), 0);
        numbers("with the greatest start", tree, "999 999.1 999.5 - 1000");
        Check.same("startAt(4, 1000) of another", tree.startAt(4, 7), 0);
        numbers("with a start that is not greater", tree, "999 999.1 999.5 - 1000");
        Check.same("startAt(2, 1)", tree.startAt(2, 1), 5);
        Check.same("startAt(0, 0)", tree.startAt(0, 0), 999);
        numbers("with smaller starts", tree, "1 1.1 1.2 - 7");
        Check.same("startAt of a plain one", tree.startAt(3, 4), 0);
        Check.same("startAt of a plain one again", tree.startAt(3, 9), 4);
        tree.setLevel(3, 2);
        numbers("when it is plain no more", tree, "1 1.1 1.2 1.9 7");
        tree.freeze();
        Check.same("startAt of a frozen one", tree.startAt(3, 20), 9);
        numbers("when it is frozen", tree, "1 1.1 1.2 1.9 7");
        Check.refused("startAt(0, 1000)", ARGUMENT, NumberTest::small, t -> t.startAt(0, 1000));
        Check.refused("startAt(0, -1)", ARGUMENT, NumberTest::small, t -> t.startAt(0, -1));
        Check.refused("startAt(5, 1000)", ABSENT, NumberTest::small, t -> t.startAt(5, 1000));
        Check.refused("startAt of a removed one", ABSENT, () -> without(1), t -> t.startAt(1, 1));
    }

    private static void reserve() {
        NumberingTree tree = Check.tree(2, 2, 1, 0, 1, 1);
        Check.same("reserve(0, 20)", tree.reserve(0, 20), 0);
        numbers("with 20 reserved", tree, "1 22 1 - 2 3");
        Check.same("reserve(2, 2)", tree.reserve(2, 2), 0);
        Check.same("reserve(3, 5) of a plain one", tree.reserve(3, 5), 0);
        numbers("with 2 more reserved", tree, "1 22 1 - 4 5");
        Check.same("reserve(0, 1)", tree.reserve(0, 1), 20);
        Check.same("reserve(0, 0)", tree.reserve(0, 0), 1);
        Check.same("reserve(5, 3), which has none behind", tree.reserve(5, 3), 0);
        numbers("with none", tree, "1 2 1 - 4 5");
        Check.same("reserve(3, 0)", tree.reserve(3, 0), 5);
        Check.refused("reserve(0, 21)", ARGUMENT, NumberTest::small, t -> t.reserve(0, 21));
        Check.refused("reserve(0, -1)", ARGUMENT, NumberTest::small, t -> t.reserve(0, -1));
        Check.refused("reserve(5, 21)", ABSENT, NumberTest::small, t -> t.reserve(5, 21));
        Check.refused("reserve of a removed one", ABSENT, () -> without(1), t -> t.reserve(1, 1));
    }

    /** Neither counts where a frozen one is behind; the greater counts where none is. */
    private static void startAndReserve() {
        NumberingTree tree = Check.tree(1, 1, 1);
        tree.reserve(0, 6);
        tree.startAt(1, 8);
        numbers("start as great as what is reserved", tree, "1 8 9");
        tree.startAt(1, 9);
        numbers("greater start", tree, "1 9 10");
        tree.startAt(2, 15);
        tree.freeze();
        tree.insert(1, 1);
        tree.startAt(3, 5);
        numbers("a start and reserved ones with a frozen one behind", tree, "1 2 9 15");
        tree.insert(3, 1);
        tree.reserve(1, 20);
        numbers("reserved ones behind a frozen one with a frozen one behind", tree, "1 2 9 10 15");
        tree.insert(5, 1);
        tree.reserve(2, 3);
        numbers("reserved ones behind the last frozen one", tree, "1 2 9 10 15 19");
    }

    private static void skip() {
        NumberingTree tree = Check.tree(1, 2, 2, 2, 1, 2, 1);
        Check.same("skip(2, 1)", tree.skip(2, 1), 1);
        Check.same("skip(2, 3)", tree.skip(2, 3), 2);
        Check.same("skip(1, 2)", tree.skip(1, 2), 1);
        Check.same("skip(2, 99)", tree.skip(2, 99), 3);
        numbers("with skipped ones", tree, "1 1.2 1.4 1.5 3 3.2 4");
        tree.skip(2, 4);
        tree.skip(2, 5);
        numbers("with skipped ones in a row", tree, "1 1.2 1.6 1.7 3 3.2 4");
        tree.startAt(2, 98);
        numbers("with skipped ones behind a start", tree, "1 1.2 1.98 1.100 3 3.2 4");
        tree.startAt(2, 200);
        numbers("beyond all that is skipped", tree, "1 1.2 1.200 1.201 3 3.2 4");
        NumberingTree next = Check.tree(1, 1);
        next.skip(2, 1);
        next.startAt(1, 101);
        numbers("a number above 99 is not skipped for the next level", next, "1 101");
        NumberingTree apart = Check.tree(4, 1, 2);
        Check.same("skip(4, 99)", apart.skip(4, 99), 1);
        Check.same("skip(1, 99)", apart.skip(1, 99), 1);
        Check.same("skip(2, 1)", apart.skip(2, 1), 1);
        apart.startAt(0, 99);
        apart.startAt(1, 99);
        numbers("the greatest number that is skipped", apart, "100 100 100.2");
        Check.refused("skip again", STATE, () -> skipped(2, 7), t -> t.skip(2, 7));
        Check.same("skip for another level", skipped(2, 7).skip(3, 7), 1);
        Check.refused("skip(0, 1)", ARGUMENT, NumberTest::small, t -> t.skip(0, 1));
        Check.refused("skip(5, 1)", ARGUMENT, NumberTest::small, t -> t.skip(5, 1));
        Check.refused("skip(1, 0)", ARGUMENT, NumberTest::small, t -> t.skip(1, 0));
        Check.refused("skip(1, 100)", ARGUMENT, NumberTest::small, t -> t.skip(1, 100));
    }

    private static void unskip() {
        NumberingTree tree = Check.tree(1, 1, 1);
        tree.skip(1, 1);
        tree.skip(1, 2);
        tree.skip(2, 2);
        numbers("before unskip", tree, "3 4 5");
        Check.same("unskip(1, 1)", tree.unskip(1, 1), 1);
        numbers("after unskip", tree, "1 3 4");
        Check.same("unskip(1, 2)", tree.unskip(1, 2), 0);
        numbers("after both", tree, "1 2 3");
        Check.same("skip once more", tree.skip(1, 2), 1);
        Check.same("unskip for the other level", tree.unskip(2, 2), 0);
        Check.refused("unskip of what is not skipped", STATE, () -> skipped(2, 7), t -> t.unskip(2, 8));
        Check.refused("unskip for another level", STATE, () -> skipped(2, 7), t -> t.unskip(1, 7));
        Check.refused("unskip(0, 7)", ARGUMENT, () -> skipped(2, 7), t -> t.unskip(0, 7));
        Check.refused("unskip(5, 7)", ARGUMENT, () -> skipped(2, 7), t -> t.unskip(5, 7));
        Check.refused("unskip(2, 0)", ARGUMENT, () -> skipped(2, 7), t -> t.unskip(2, 0));
        Check.refused("unskip(1, 107)", ARGUMENT, () -> skipped(2, 7), t -> t.unskip(1, 107));
    }

    private static void skipAndFrozen() {
        NumberingTree tree = Check.frozenTree(1, 1, 1);
        tree.remove(1);
        tree.insert(1, 1);
        numbers("a used number is not given again", tree, "1 1A 3");
        tree.skip(1, 3);
        numbers("a frozen number stays when it is skipped", tree, "1 1A 3");
        tree.insert(3, 1);
        tree.skip(1, 4);
        numbers("skipped and used ones in a row", tree, "1 1A 3 5");
    }

    private static void setGoingOn() {
        NumberingTree tree = Check.tree(3, 1, 2, 2, 3, 1, 2, 3);
        Check.same("setGoingOn(2, true)", tree.setGoingOn(2, true), false);
        numbers("a level that goes on", tree, "1 1 1.1 1.2 1.2.1 2 2.3 2.3.1");
        Check.same("setGoingOn(3, true)", tree.setGoingOn(3, true), false);
        numbers("two levels that go on", tree, "1 1 1.1 1.2 1.2.2 2 2.3 2.3.3");
        Check.same("setGoingOn(2, true) again", tree.setGoingOn(2, true), true);
        Check.same("setGoingOn(2, false)", tree.setGoingOn(2, false), true);
        Check.same("setGoingOn(2, false) again", tree.setGoingOn(2, false), false);
        numbers("one that begins anew once more", tree, "1 1 1.1 1.2 1.2.2 2 2.1 2.1.3");
        Check.refused("setGoingOn(0, true)", ARGUMENT, NumberTest::small, t -> t.setGoingOn(0, true));
        Check.refused("setGoingOn(5, true)", ARGUMENT, NumberTest::frozen, t -> t.setGoingOn(5, true));
        Check.refused("setGoingOn(2, true) with frozen ones", HELD, NumberTest::frozen,
                t -> t.setGoingOn(2, true));
        Check.refused("setGoingOn(1, true) with the first one frozen", HELD, () -> Check.frozenTree(1),
                t -> t.setGoingOn(1, true));
        Check.refused("setGoingOn(1, false), as it is, with frozen ones", HELD, NumberTest::frozen,
                t -> t.setGoingOn(1, false));
        Check.same("setGoingOn(3, true) with frozen ones of others", frozen().setGoingOn(3, true), false);
        NumberingTree removed = frozen();
        removed.remove(1);
        removed.remove(2);
        Check.same("setGoingOn(2, true) when the frozen ones are gone", removed.setGoingOn(2, true), false);
    }

    private static void freeze() {
        NumberingTree tree = small();
        Check.same("isFrozen before", tree.isFrozen(0), false);
        Check.same("freeze", tree.freeze(), 4);
        for (int paragraph = 0; paragraph < 5; paragraph++) {
            Check.same("isFrozen(" + paragraph + ")", tree.isFrozen(paragraph), paragraph != 3);
        }
        Check.same("freeze again", tree.freeze(), 0);
        tree.insert(5, 2);
        Check.same("isFrozen of a new one", tree.isFrozen(5), false);
        Check.same("freeze with a new one", tree.freeze(), 1);
        Check.same("isFrozen then", tree.isFrozen(5), true);
        tree.remove(1);
        numbers("a frozen number stays", tree, "1 1.2 - 2 2.1");
        Check.same("freeze changes no number of its own", tree.used(), 5);
        Check.refused("isFrozen(5)", ABSENT, NumberTest::frozen, t -> t.isFrozen(5));
        Check.refused("isFrozen of a removed one", ABSENT, () -> without(1), t -> t.isFrozen(1));
        Check.asked("isFrozen", NumberTest::frozen, t -> t.isFrozen(2), true);
    }

    private static void freezeBelowLettered() {
        NumberingTree tree = Check.frozenTree(1, 1);
        tree.insert(1, 1);
        tree.insert(2, 2);
        tree.insert(3, 3);
        tree.insert(5, 2);
        numbers("before freeze", tree, "1 1A 1A.1 1A.1.1 2 2.1");
        Check.same("freeze with a lettered one", tree.freeze(), 1);
        Check.same("isFrozen of the lettered one", tree.isFrozen(2), false);
        Check.same("isFrozen of its child", tree.isFrozen(3), false);
        Check.same("isFrozen of its child's child", tree.isFrozen(4), false);
        Check.same("isFrozen of one below a frozen one", tree.isFrozen(5), true);
        Check.same("used", tree.used(), 3);
        tree.remove(5);
        tree.remove(1);
        numbers("when its letters are gone", tree, "1 3 3.1 3.1.1");
        Check.same("freeze then", tree.freeze(), 3);
    }

    /** One that is not frozen itself counts anew when one behind it becomes frozen: nothing is reserved then. */
    private static void freezeThatRenumbers() {
        NumberingTree tree = Check.frozenTree(1, 1);
        tree.setGoingOn(2, true);
        tree.insert(1, 2);
        tree.insert(2, 1);
        tree.insert(3, 2);
        tree.insert(5, 2);
        tree.reserve(2, 5);
        numbers("before freeze", tree, "1 1.1 1A 1A.7 2 2.8");
        Check.same("freeze", tree.freeze(), 2);
        numbers("after freeze", tree, "1 1.1 1A 1A.2 2 2.8");
    }

    private static void betweenFrozen() {
        NumberingTree tree = Check.tree(1, 1, 1);
        tree.startAt(0, 2);
        tree.startAt(2, 6);
        tree.freeze();
        tree.insert(0, 1);
        tree.insert(1, 1);
        tree.insert(2, 1);
        numbers("ahead of the first frozen one", tree, "1 1A 1B 2 3 6");
        tree.insert(4, 1);
        numbers("between two without a free number", tree, "1 1A 1B 2 2A 3 6");
        tree.insert(6, 1);
        tree.insert(7, 1);
        tree.insert(8, 1);
        tree.insert(9, 1);
        numbers("between two with free numbers", tree, "1 1A 1B 2 2A 3 4 5 5A 5B 6");
        tree.skip(1, 1);
        numbers("0 where there is none ahead", tree, "0A 0B 0C 2 2A 3 4 5 5A 5B 6");
    }

    private static void betweenFrozenWithSkipped() {
        NumberingTree tree = Check.tree(1, 1, 1);
        tree.startAt(0, 2);
        tree.startAt(2, 6);
        tree.freeze();
        tree.skip(1, 1);
        tree.skip(1, 5);
        int[] places = {0, 1, 2, 4, 6, 7, 8, 9};
        for (int place : places) {
            tree.insert(place, 1);
        }
        numbers("with a skipped one between two", tree, "0A 0B 0C 2 2A 3 4 4A 4B 4C 6");
        tree.insert(11, 1);
        numbers("behind the last", tree, "0A 0B 0C 2 2A 3 4 4A 4B 4C 6 7");
        Check.same("numberOf of the second", tree.numberOf(4), 0);
        Check.same("lettersOf of the second", tree.lettersOf(4), 2);
        tree.remove(2);
        numbers("when the last frozen one is removed", tree, "0A 0B 0C 2 2A 3 4 7 8 9 10");
    }

    private static void usedNumbers() {
        NumberingTree tree = frozen();
        Check.same("used", tree.used(), 4);
        tree.remove(1);
        tree.remove(2);
        tree.remove(0);
        Check.same("used when some are removed", tree.used(), 4);
        numbers("what is left", tree, "- 2");
        tree.insert(0, 1);
        numbers("a used number is not given ahead", tree, "0A - 2");
        tree.insert(1, 2);
        Check.same("freeze", tree.freeze(), 0);
        Check.same("used when nothing becomes frozen", tree.used(), 4);
        tree.insert(4, 1);
        tree.insert(5, 2);
        Check.same("freeze of what is behind", tree.freeze(), 2);
        Check.same("the same number counts for each group", tree.used(), 6);
        Check.asked("used", NumberTest::frozen, NumberingTree::used, 4);
    }

    private static void groupsKeepTheirUsed() {
        NumberingTree tree = frozen();
        tree.remove(1);
        tree.remove(2);
        tree.insert(1, 2);
        numbers("the group of the same parent", tree, "1 1.3 - 2");
        tree.setGoingOn(2, true);
        numbers("another group", tree, "1 1.1 - 2");
        tree.freeze();
        tree.remove(5);
        tree.insert(4 - 1, 2);
        numbers("the group of the level that goes on", tree, "1 - 2 2.2");
        tree.setGoingOn(2, false);
        tree.insert(1, 2);
        numbers("both that begin anew", tree, "1 1.3 - 2 2.1");
        tree.setGoingOn(2, true);
        numbers("the level that goes on again", tree, "1 1.2 - 2 2.3");
        NumberingTree first = Check.frozenTree(2, 0);
        first.remove(0);
        first.insert(0, 2);
        numbers("the group without a parent", first, "2 -");
        first.insert(0, 1);
        numbers("a group with a parent", first, "1 1.1 -");
        first.move(3, 1);
        numbers("the group without a parent again", first, "2 1 -");
        first.setLevel(2, 1);
        numbers("a group of another level", first, "1 2 -");
        NumberingTree outer = Check.frozenTree(1);
        outer.remove(0);
        outer.insert(0, 1);
        numbers("the group of the outermost level", outer, "2");
        outer.setGoingOn(1, true);
        numbers("the outermost level that goes on is another one", outer, "1");
        outer.freeze();
        outer.remove(1);
        outer.insert(0, 1);
        numbers("the same one with what it used itself", outer, "2");
        Check.same("used in both", outer.used(), 2);
    }

    /** As many numbers as can be taken stand in a row. */
    private static void allThatCanBeTaken() {
        NumberingTree tree = new NumberingTree();
        for (int i = 0; i < 59; i++) {
            tree.insert(i, 1);
        }
        tree.startAt(0, 100);
        tree.freeze();
        for (int i = 0; i < 59; i++) {
            tree.remove(i);
        }
        for (int number = 1; number <= 99; number++) {
            Check.same("skip in a row", tree.skip(1, number), number);
        }
        tree.insert(0, 1);
        Check.same("used by removed ones", tree.used(), 59);
        numbers("behind all that is taken", tree, "159");
        tree.skip(2, 1);
        tree.unskip(1, 50);
        numbers("with one that is not taken", tree, "50");
    }

    private static void walkedSameAsKept() {
        NumberingTree tree = new NumberingTree();
        for (int i = 0; i < 20; i++) {
            tree.insert(i, 1);
        }
        tree.freeze();
        for (int i = 0; i < 40; i++) {
            tree.insert(10, 1);
        }
        Check.same("lettersOf of the last of many", tree.lettersOf(20), 40);
        Check.same("lettersByWalk of the last of many", tree.lettersByWalk(20), 40);
        Check.same("numberByWalk of the last of many", tree.numberByWalk(20), 10);
        Check.same("numberByWalk of a frozen one", tree.numberByWalk(19), 20);
        Check.same("lettersByWalk of a frozen one", tree.lettersByWalk(19), 0);
        Check.asked("numberByWalk", NumberTest::small, t -> t.numberByWalk(2), 2);
        Check.asked("lettersByWalk", NumberTest::small, t -> t.lettersByWalk(2), 0);
        Check.asked("numberOf", NumberTest::small, t -> t.numberOf(4), 2);
        Check.asked("lettersOf", NumberTest::small, t -> t.lettersOf(4), 0);
    }

    private static void ahead() {
        NumberingTree tree = Check.tree(2, 1, 2, 0, 3, 2, 1, 2, 2);
        int[] due = {-1, -1, -1, -9, -1, 2, 1, -1, 7};
        for (int paragraph = 0; paragraph < due.length; paragraph++) {
            if (paragraph != 3) {
                Check.same("ahead(" + paragraph + ")", tree.ahead(paragraph), due[paragraph]);
            }
        }
        tree.setGoingOn(2, true);
        Check.same("ahead(2) where the level goes on", tree.ahead(2), 0);
        Check.same("ahead(7) where the level goes on", tree.ahead(7), 5);
        tree.remove(5);
        Check.same("ahead(7) without the one ahead", tree.ahead(7), 2);
        Check.asked("ahead", NumberTest::small, t -> t.ahead(4), 0);
    }

    private static void wrongInputs() {
        Check.refused("numberOf(5)", ABSENT, NumberTest::small, t -> t.numberOf(5));
        Check.refused("lettersOf(5)", ABSENT, NumberTest::small, t -> t.lettersOf(5));
        Check.refused("numberByWalk(-1)", ABSENT, NumberTest::small, t -> t.numberByWalk(-1));
        Check.refused("lettersByWalk(60)", ABSENT, NumberTest::small, t -> t.lettersByWalk(60));
        Check.refused("ahead(5)", ABSENT, NumberTest::small, t -> t.ahead(5));
        Check.refused("numberOf of a removed one", ABSENT, () -> without(3), t -> t.numberOf(3));
        Check.refused("lettersOf of a removed one", ABSENT, () -> without(3), t -> t.lettersOf(3));
        Check.refused("numberByWalk of a removed one", ABSENT, () -> without(3), t -> t.numberByWalk(3));
        Check.refused("lettersByWalk of a removed one", ABSENT, () -> without(3), t -> t.lettersByWalk(3));
        Check.refused("ahead of a removed one", ABSENT, () -> without(3), t -> t.ahead(3));
        Check.refused("numberOf of a plain one", STATE, NumberTest::small, t -> t.numberOf(3));
        Check.refused("lettersOf of a plain one", STATE, NumberTest::small, t -> t.lettersOf(3));
        Check.refused("numberByWalk of a plain one", STATE, NumberTest::small, t -> t.numberByWalk(3));
        Check.refused("lettersByWalk of a plain one", STATE, NumberTest::small, t -> t.lettersByWalk(3));
        Check.refused("ahead of a plain one", STATE, NumberTest::small, t -> t.ahead(3));
    }
}
