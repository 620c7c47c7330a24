import java.util.List;
import java.util.function.ObjIntConsumer;
import java.util.function.Supplier;

/** The boundary cases of promises 6 to 9, 11, 12, 20 to 25 and 35: numbers, letters, what was used. */
final class NumberEdges {
    private static final Class<IllegalArgumentException> ARGUMENT = IllegalArgumentException.class;
    private static final Class<IllegalStateException> STATE = IllegalStateException.class;
    private static final Class<UnsupportedOperationException> HELD = UnsupportedOperationException.class;

    private NumberEdges() {
    }

    static List<Edge> all() {
        return List.of(
                new Edge(6, "- `number`", NumberEdges::startAtNumber),
                new Edge(6, "Returns", NumberEdges::startAtReturns),
                new Edge(6, "Throws `NoSuchElementException`",
                        () -> Texts.refusedNames("startAt", (tree, name) -> tree.startAt(name, 1))),
                new Edge(6, "Throws `IllegalArgumentException`", NumberEdges::startAtOutOfRange),
                new Edge(7, "- `count`", NumberEdges::reserveCount),
                new Edge(7, "Returns", NumberEdges::reserveReturns),
                new Edge(7, "Throws `NoSuchElementException`",
                        () -> Texts.refusedNames("reserve", (tree, name) -> tree.reserve(name, 1))),
                new Edge(7, "Throws `IllegalArgumentException`", NumberEdges::reserveOutOfRange),
                new Edge(8, "- `level`", NumberEdges::skipLevel),
                new Edge(8, "- `number`", NumberEdges::skipNumber),
                new Edge(8, "Returns", NumberEdges::skipReturns),
                new Edge(8, "Throws `IllegalArgumentException`", NumberEdges::skipOutOfRange),
                new Edge(8, "Throws `IllegalStateException`", NumberEdges::skipSkipped),
                new Edge(9, "- `level`", NumberEdges::unskipLevel),
                new Edge(9, "- `number`", NumberEdges::unskipNumber),
                new Edge(9, "Returns", NumberEdges::unskipReturns),
                new Edge(9, "Throws `IllegalArgumentException`", NumberEdges::unskipOutOfRange),
                new Edge(9, "Throws `IllegalStateException`", NumberEdges::unskipNotSkipped),
                new Edge(11, "- `level`", NumberEdges::setGoingOnLevel),
                new Edge(11, "Returns", NumberEdges::setGoingOnReturns),
                new Edge(11, "Throws `IllegalArgumentException`", NumberEdges::setGoingOnOutOfRange),
                new Edge(11, "Throws `UnsupportedOperationException`", NumberEdges::setGoingOnFrozen),
                new Edge(12, "Returns", NumberEdges::freezeReturns),
                new Edge(20, "Returns", NumberEdges::isFrozenReturns),
                new Edge(20, "Throws `NoSuchElementException`",
                        () -> Texts.refusedNames("isFrozen", NumberingTree::isFrozen)),
                new Edge(21, "Returns", NumberEdges::numberOfReturns),
                new Edge(21, "Throws `NoSuchElementException`",
                        () -> Texts.refusedNames("numberOf", NumberingTree::numberOf)),
                new Edge(21, "Throws `IllegalStateException`", () -> refusedPlain("numberOf", NumberingTree::numberOf)),
                new Edge(22, "Returns", NumberEdges::lettersOfReturns),
                new Edge(22, "Throws `NoSuchElementException`",
                        () -> Texts.refusedNames("lettersOf", NumberingTree::lettersOf)),
                new Edge(22, "Throws `IllegalStateException`",
                        () -> refusedPlain("lettersOf", NumberingTree::lettersOf)),
                new Edge(23, "Returns the number.", NumberEdges::numberByWalkReturns),
                new Edge(23, "Throws `NoSuchElementException`",
                        () -> Texts.refusedNames("numberByWalk", NumberingTree::numberByWalk)),
                new Edge(23, "Throws `IllegalStateException`",
                        () -> refusedPlain("numberByWalk", NumberingTree::numberByWalk)),
                new Edge(24, "Returns the number of letters.", NumberEdges::lettersByWalkReturns),
                new Edge(24, "Throws `NoSuchElementException`",
                        () -> Texts.refusedNames("lettersByWalk", NumberingTree::lettersByWalk)),
                new Edge(24, "Throws `IllegalStateException`",
                        () -> refusedPlain("lettersByWalk", NumberingTree::lettersByWalk)),
                new Edge(25, "Returns", NumberEdges::aheadReturns),
                new Edge(25, "Throws `NoSuchElementException`",
                        () -> Texts.refusedNames("ahead", NumberingTree::ahead)),
                new Edge(25, "Throws `IllegalStateException`", () -> refusedPlain("ahead", NumberingTree::ahead)),
                new Edge(35, "`int used()`", NumberEdges::used));
    }

    private static void refusedPlain(String what, ObjIntConsumer<NumberingTree> call) {
        Check.refused(what + " of a plain one", STATE, Texts::told, tree -> call.accept(tree, 3));
        Check.refused(what + " of a plain one, the last", STATE, Texts::held, tree -> call.accept(tree, 5));
        Check.refused(what + " of a plain one, the first", STATE, Texts::full, tree -> call.accept(tree, 0));
        Check.refused(what + " of one that became plain", STATE, () -> {
            NumberingTree tree = Texts.held();
            tree.setLevel(7, 0);
            return tree;
        }, tree -> call.accept(tree, 7));
    }

    private static void startAtNumber() {
        int[] numbers = {1, 2, 99, 100, 998, 999};
        for (int number : numbers) {
            NumberingTree tree = Texts.single();
            Check.same("startAt(0, " + number + ")", tree.startAt(0, number), 0);
            Check.same("numberOf then", tree.numberOf(0), number);
            Check.same("numberByWalk then", tree.numberByWalk(0), number);
        }
        NumberingTree none = Texts.row(2, 1);
        none.startAt(1, 999);
        Check.same("startAt(1, 0)", none.startAt(1, 0), 999);
        Check.same("numberOf without a start", none.numberOf(1), 2);
    }

    private static void startAtReturns() {
        Check.asked("startAt(0, 0) at first", Texts::single, tree -> tree.startAt(0, 0), 0);
        Check.asked("startAt of as much as before", Texts::told, tree -> tree.startAt(5, 16), 16);
        Check.asked("startAt of a plain one", Texts::told, tree -> tree.startAt(3, 14), 14);
        Check.asked("startAt of a lettered one", Texts::held, tree -> tree.startAt(7, 9), 9);
        NumberingTree tree = Texts.held();
        int[] numbers = {999, 1, 0, 5};
        int before = 0;
        for (int number : numbers) {
            Check.same("startAt(0, " + number + ") of a frozen one", tree.startAt(0, number), before);
            Check.same("numberOf then", tree.numberOf(0), 1);
            before = number;
        }
        NumberingTree moved = Texts.told();
        moved.setLevel(5, 0);
        moved.move(5, 0);
        Check.same("startAt of one that changed since", moved.startAt(5, 0), 16);
    }

    private static void startAtOutOfRange() {
        Check.refusedBeyond("startAt", 0, 999, ARGUMENT, Texts::told, (tree, number) -> tree.startAt(0, number));
        Check.refusedBeyond("startAt of a plain one", 0, 999, ARGUMENT, Texts::told,
                (tree, number) -> tree.startAt(3, number));
        Check.refusedBeyond("startAt of a frozen one", 0, 999, ARGUMENT, Texts::held,
                (tree, number) -> tree.startAt(0, number));
        Check.refusedBeyond("startAt in a full text", 0, 999, ARGUMENT, Texts::full,
                (tree, number) -> tree.startAt(59, number));
    }

    private static void reserveCount() {
        int[] counts = {0, 1, 2, 19, 20};
        for (int count : counts) {
            NumberingTree tree = Texts.row(3, 1);
            Check.same("reserve(0, " + count + ")", tree.reserve(0, count), 0);
            Check.same("numberOf(0) then", tree.numberOf(0), 1);
            Check.same("numberOf(1) then", tree.numberOf(1), 2 + count);
            Check.same("numberByWalk(1) then", tree.numberByWalk(1), 2 + count);
            Check.same("numberOf(2) then", tree.numberOf(2), 3 + count);
        }
        NumberingTree none = Texts.row(2, 1);
        none.reserve(0, 20);
        Check.same("reserve(0, 0)", none.reserve(0, 0), 20);
        Check.same("numberOf with none", none.numberOf(1), 2);
    }

    private static void reserveReturns() {
        Check.asked("reserve(0, 0) at first", Texts::single, tree -> tree.reserve(0, 0), 0);
        Check.asked("reserve of as many as before", Texts::told, tree -> tree.reserve(5, 6), 6);
        Check.asked("reserve behind a plain one", Texts::told, tree -> tree.reserve(3, 4), 4);
        Check.asked("reserve behind a frozen one", Texts::held, tree -> tree.reserve(1, 3), 3);
        NumberingTree tree = Texts.held();
        int[] counts = {20, 1, 0, 5};
        int before = 0;
        for (int count : counts) {
            Check.same("reserve(4, " + count + ") behind a frozen one", tree.reserve(4, count), before);
            before = count;
        }
    }

    private static void reserveOutOfRange() {
        Check.refusedBeyond("reserve", 0, 20, ARGUMENT, Texts::told, (tree, count) -> tree.reserve(0, count));
        Check.refusedBeyond("reserve behind a plain one", 0, 20, ARGUMENT, Texts::told,
                (tree, count) -> tree.reserve(3, count));
        Check.refusedBeyond("reserve behind a frozen one", 0, 20, ARGUMENT, Texts::held,
                (tree, count) -> tree.reserve(1, count));
        Check.refusedBeyond("reserve in a full text", 0, 20, ARGUMENT, Texts::full,
                (tree, count) -> tree.reserve(59, count));
    }

    private static void skipLevel() {
        for (int level = 1; level <= 4; level++) {
            NumberingTree tree = Check.tree(4, 3, 2, 1);
            Check.same("skip(" + level + ", 1)", tree.skip(level, 1), 1);
            for (int name = 0; name < 4; name++) {
                int due = level == 4 - name ? 2 : 1;
                Check.same("numberOf one of the level " + (4 - name), tree.numberOf(name), due);
                Check.same("numberByWalk of one of the level " + (4 - name), tree.numberByWalk(name), due);
            }
        }
        Check.refusedBeyond("skip", 1, 4, ARGUMENT, Texts::told, (tree, level) -> tree.skip(level, 1));
    }

    private static void skipNumber() {
        for (int level = 1; level <= 4; level++) {
            skippedNumber(level, 1, 1, 2);
            skippedNumber(level, 2, 1, 1);
            skippedNumber(level, 98, 98, 99);
            skippedNumber(level, 99, 99, 100);
            skippedNumber(level, 99, 98, 98);
            skippedNumber(level, 99, 100, 100);
        }
        Check.refusedBeyond("skip", 1, 99, ARGUMENT, Texts::told, (tree, number) -> tree.skip(1, number));
        Check.refusedBeyond("skip", 1, 99, ARGUMENT, NumberingTree::new, (tree, number) -> tree.skip(4, number));
    }

    private static void skippedNumber(int level, int skipped, int start, int due) {
        NumberingTree tree = Check.tree(level);
        tree.startAt(0, start);
        Check.same("skip(" + level + ", " + skipped + ")", tree.skip(level, skipped), 1);
        Check.same("numberOf with the start " + start, tree.numberOf(0), due);
        Check.same("numberByWalk with the start " + start, tree.numberByWalk(0), due);
    }

    private static NumberingTree skippedAll(int level) {
        NumberingTree tree = Check.tree(level);
        for (int number = 1; number <= 99; number++) {
            Check.same("skip(" + level + ", " + number + ")", tree.skip(level, number), number);
        }
        return tree;
    }

    private static void skipReturns() {
        for (int level = 1; level <= 4; level++) {
            NumberingTree tree = skippedAll(level);
            Check.same("numberOf when all are skipped", tree.numberOf(0), 100);
            Check.same("numberByWalk when all are skipped", tree.numberByWalk(0), 100);
            for (int other = 1; other <= 4; other++) {
                if (other != level) {
                    Check.same("skip for another level", tree.skip(other, 99), 1);
                }
            }
        }
        Check.taken("skip of a third one", Texts::told, tree -> tree.skip(1, 1), 3);
    }

    private static void skipOutOfRange() {
        Check.refused("skip(0, 0)", ARGUMENT, Texts::told, tree -> tree.skip(0, 0));
        Check.refused("skip(5, 100)", ARGUMENT, Texts::told, tree -> tree.skip(5, 100));
        Check.refused("skip(0, 7)", ARGUMENT, Texts::told, tree -> tree.skip(0, 7));
        Check.refused("skip(1, 100)", ARGUMENT, () -> skippedAll(1), tree -> tree.skip(1, 100));
        Check.refused("skip(1, 0)", ARGUMENT, () -> skippedAll(1), tree -> tree.skip(1, 0));
    }

    private static void skipSkipped() {
        for (int level = 1; level <= 4; level++) {
            int each = level;
            Check.refused("skip(" + level + ", 7) again", STATE, Texts::told, tree -> tree.skip(each, 7));
            Check.refused("skip(" + level + ", 1) again", STATE, () -> skippedAll(each), tree -> tree.skip(each, 1));
            Check.refused("skip(" + level + ", 99) again", STATE, () -> skippedAll(each), tree -> tree.skip(each, 99));
        }
        Check.taken("skip of one that another level skips", Texts::told, tree -> tree.skip(1, 92), 3);
        Check.taken("skip of a frozen one's number", Texts::held, tree -> tree.skip(1, 1), 1);
        Check.taken("skip once more when it was ended", Texts::told, tree -> {
            tree.unskip(1, 7);
            return tree.skip(1, 7);
        }, 2);
    }

    private static void unskipLevel() {
        for (int level = 1; level <= 4; level++) {
            NumberingTree tree = Check.tree(4, 3, 2, 1);
            for (int each = 1; each <= 4; each++) {
                tree.skip(each, 1);
            }
            Check.same("unskip(" + level + ", 1)", tree.unskip(level, 1), 0);
            for (int name = 0; name < 4; name++) {
                Check.same("numberOf one of the level " + (4 - name), tree.numberOf(name), level == 4 - name ? 1 : 2);
            }
        }
        Check.refusedBeyond("unskip", 1, 4, ARGUMENT, Texts::told, (tree, level) -> tree.unskip(level, 7));
    }

    private static void unskipNumber() {
        int[] numbers = {1, 2, 98, 99};
        for (int number : numbers) {
            NumberingTree tree = skippedAll(1);
            Check.same("unskip(1, " + number + ")", tree.unskip(1, number), 98);
            Check.same("numberOf then", tree.numberOf(0), number);
            Check.same("numberByWalk then", tree.numberByWalk(0), number);
        }
        Check.refusedBeyond("unskip", 1, 99, ARGUMENT, Texts::told, (tree, number) -> tree.unskip(1, number));
    }

    private static void unskipReturns() {
        Check.taken("unskip of one of two", Texts::told, tree -> tree.unskip(4, 94), 1);
        NumberingTree tree = skippedAll(4);
        for (int number = 99; number >= 1; number--) {
            Check.same("unskip(4, " + number + ")", tree.unskip(4, number), number - 1);
        }
        Check.same("numberOf when none is skipped", tree.numberOf(0), 1);
    }

    private static void unskipOutOfRange() {
        Check.refused("unskip(0, 0)", ARGUMENT, Texts::told, tree -> tree.unskip(0, 0));
        Check.refused("unskip(5, 100)", ARGUMENT, Texts::told, tree -> tree.unskip(5, 100));
        Check.refused("unskip(2, 0)", ARGUMENT, NumberingTree::new, tree -> tree.unskip(2, 0));
        Check.refused("unskip(1, 100)", ARGUMENT, () -> skippedAll(1), tree -> tree.unskip(1, 100));
        Check.refused("unskip(2, 0)", ARGUMENT, () -> skippedAll(1), tree -> tree.unskip(2, 0));
    }

    private static void unskipNotSkipped() {
        for (int level = 1; level <= 4; level++) {
            int each = level;
            Check.refused("unskip(" + level + ", 1)", STATE, Texts::told, tree -> tree.unskip(each, 1));
            Check.refused("unskip(" + level + ", 99)", STATE, Texts::told, tree -> tree.unskip(each, 99));
            Check.refused("unskip(" + level + ", 1) of none", STATE, NumberingTree::new, tree -> tree.unskip(each, 1));
        }
        Check.refused("unskip of one that another level skips", STATE, Texts::told, tree -> tree.unskip(1, 92));
        Check.refused("unskip of a frozen one's number", STATE, Texts::held, tree -> tree.unskip(2, 1));
        Check.refused("unskip again", STATE, () -> {
            NumberingTree tree = Texts.told();
            tree.unskip(1, 7);
            return tree;
        }, tree -> tree.unskip(1, 7));
    }

    private static void setGoingOnLevel() {
        for (int level = 2; level <= 4; level++) {
            NumberingTree tree = Check.tree(1, 2, 3, 4, 1, 4, 3, 2);
            tree.setGoingOn(level, true);
            int[] second = {0, 4, 7, 6, 5};
            for (int each = 1; each <= 4; each++) {
                int due = each == level || each == 1 ? 2 : 1;
                Check.same("numberOf the second one of " + each, tree.numberOf(second[each]), due);
                Check.same("numberByWalk of the second one of " + each, tree.numberByWalk(second[each]), due);
            }
        }
        NumberingTree first = Check.tree(1, 2, 1, 2);
        Check.same("setGoingOn(1, true)", first.setGoingOn(1, true), false);
        Check.same("labels where the first level goes on", Check.labels(first), "1 1.1 2 2.1");
    }

    private static void setGoingOnReturns() {
        for (int level = 1; level <= 4; level++) {
            NumberingTree tree = new NumberingTree();
            Check.same("setGoingOn(" + level + ", true)", tree.setGoingOn(level, true), false);
            Check.same("setGoingOn(" + level + ", true) again", tree.setGoingOn(level, true), true);
            Check.same("setGoingOn(" + level + ", false)", tree.setGoingOn(level, false), true);
            Check.same("setGoingOn(" + level + ", false) again", tree.setGoingOn(level, false), false);
        }
    }

    private static void setGoingOnOutOfRange() {
        Check.refusedBeyond("setGoingOn true", 1, 4, ARGUMENT, Texts::told,
                (tree, level) -> tree.setGoingOn(level, true));
        Check.refusedBeyond("setGoingOn false", 1, 4, ARGUMENT, Texts::held,
                (tree, level) -> tree.setGoingOn(level, false));
    }

    private static void setGoingOnFrozen() {
        for (int level = 1; level <= 3; level++) {
            int each = level;
            Check.refused("setGoingOn(" + level + ", true)", HELD, Texts::held, tree -> tree.setGoingOn(each, true));
            Check.refused("setGoingOn(" + level + ", false)", HELD, Texts::held, tree -> tree.setGoingOn(each, false));
        }
        Check.taken("setGoingOn(4, true) with none of the level", Texts::held, tree -> tree.setGoingOn(4, true), false);
        Check.taken("setGoingOn(3, true) when the frozen one is removed", Texts::held, tree -> {
            tree.remove(2);
            return tree.setGoingOn(3, true);
        }, false);
        Check.taken("setGoingOn(2, true) with others left", Texts::held, tree -> {
            tree.remove(2);
            tree.remove(1);
            tree.remove(3);
            return tree.setGoingOn(2, true);
        }, false);
        Check.refused("setGoingOn(2, true) with the last frozen one left", HELD, () -> {
            NumberingTree tree = Texts.held();
            tree.remove(2);
            tree.remove(1);
            return tree;
        }, tree -> tree.setGoingOn(2, true));
        for (int level = 1; level <= 4; level++) {
            int each = level;
            Check.refused("setGoingOn with the 60th frozen", HELD, () -> {
                NumberingTree tree = Texts.row(59, 0);
                tree.insert(59, each);
                tree.freeze();
                return tree;
            }, tree -> tree.setGoingOn(each, true));
        }
    }

    private static void freezeReturns() {
        Check.asked("freeze of an empty text", NumberingTree::new, NumberingTree::freeze, 0);
        Check.asked("freeze of plain ones", Texts::plain, NumberingTree::freeze, 0);
        Check.asked("freeze again", Texts::fullHeld, NumberingTree::freeze, 0);
        Check.asked("freeze with a lettered one", Texts::held, NumberingTree::freeze, 0);
        Check.asked("freeze when all are removed", Texts::spent, NumberingTree::freeze, 0);
        Check.taken("freeze of a single one", Texts::single, NumberingTree::freeze, 1);
        Check.taken("freeze of a full text", Texts::full, NumberingTree::freeze, 48);
        Check.taken("freeze of 60", () -> Texts.row(60, 4), NumberingTree::freeze, 60);
        Check.taken("freeze with a removed one", Texts::told, NumberingTree::freeze, 5);
        Check.taken("freeze of one more", Texts::held, tree -> {
            tree.insert(7, 4);
            return tree.freeze();
        }, 1);
    }

    private static void isFrozenReturns() {
        Check.asked("isFrozen at first", Texts::single, tree -> tree.isFrozen(0), false);
        Check.asked("isFrozen then", () -> Check.frozenTree(1), tree -> tree.isFrozen(0), true);
        Check.asked("isFrozen of a plain one", Texts::held, tree -> tree.isFrozen(5), false);
        Check.asked("isFrozen of a lettered one", Texts::held, tree -> tree.isFrozen(7), false);
        Check.asked("isFrozen of the first", Texts::held, tree -> tree.isFrozen(0), true);
        Check.asked("isFrozen of the lowest level", Texts::fullHeld, tree -> tree.isFrozen(59), true);
    }

    private static void numberOfReturns() {
        Check.asked("numberOf a single one", Texts::single, tree -> tree.numberOf(0), 1);
        Check.asked("numberOf the last of 60", () -> Texts.row(60, 3), tree -> tree.numberOf(59), 60);
        Check.asked("numberOf the last with the most", NumberEdges::widest, tree -> tree.numberOf(59), 2238);
        Check.asked("numberOf one ahead of all frozen ones", NumberEdges::lettered, tree -> tree.numberOf(59), 0);
    }

    private static void lettersOfReturns() {
        Check.asked("lettersOf a single one", Texts::single, tree -> tree.lettersOf(0), 0);
        Check.asked("lettersOf a frozen one", NumberEdges::lettered, tree -> tree.lettersOf(0), 0);
        Check.asked("lettersOf the first lettered one", NumberEdges::lettered, tree -> tree.lettersOf(59), 1);
        Check.asked("lettersOf the second", NumberEdges::lettered, tree -> tree.lettersOf(58), 2);
        Check.asked("lettersOf the last", NumberEdges::lettered, tree -> tree.lettersOf(1), 59);
    }

    private static void numberByWalkReturns() {
        Check.asked("numberByWalk of a single one", Texts::single, tree -> tree.numberByWalk(0), 1);
        Check.asked("numberByWalk of the last of 60", () -> Texts.row(60, 3), tree -> tree.numberByWalk(59), 60);
        Check.asked("numberByWalk of the last with the most", NumberEdges::widest, tree -> tree.numberByWalk(59), 2238);
        Check.asked("numberByWalk ahead of all", NumberEdges::lettered, tree -> tree.numberByWalk(1), 0);
        Check.asked("numberByWalk of a frozen one", NumberEdges::lettered, tree -> tree.numberByWalk(0), 1);
    }

    private static void lettersByWalkReturns() {
        Check.asked("lettersByWalk of a single one", Texts::single, tree -> tree.lettersByWalk(0), 0);
        Check.asked("lettersByWalk of a frozen one", NumberEdges::lettered, tree -> tree.lettersByWalk(0), 0);
        Check.asked("lettersByWalk of the first", NumberEdges::lettered, tree -> tree.lettersByWalk(59), 1);
        Check.asked("lettersByWalk of the last", NumberEdges::lettered, tree -> tree.lettersByWalk(1), 59);
        Check.asked("lettersByWalk of the last of 60", () -> Texts.row(60, 3), tree -> tree.lettersByWalk(59), 0);
    }

    /** 60 paragraphs with all that can be reserved and the greatest start. */
    private static NumberingTree widest() {
        NumberingTree tree = Texts.row(60, 1);
        for (int name = 0; name < 60; name++) {
            tree.reserve(name, 20);
        }
        tree.startAt(0, 999);
        return tree;
    }

    /** 59 paragraphs ahead of a frozen one; the last that was inserted is the first. */
    static NumberingTree lettered() {
        NumberingTree tree = Check.frozenTree(1);
        for (int i = 1; i < 60; i++) {
            tree.insert(0, 1);
        }
        return tree;
    }

    private static void aheadReturns() {
        for (int level = 1; level <= 4; level++) {
            int each = level;
            Supplier<NumberingTree> two = () -> Check.tree(each, 0, each);
            Check.asked("ahead of the first of " + level, two, tree -> tree.ahead(0), -1);
            Check.asked("ahead of the second of " + level, two, tree -> tree.ahead(2), 0);
        }
        Check.asked("ahead of the last, the one of the first place", () -> {
            NumberingTree tree = Texts.row(58, 0);
            tree.insert(0, 3);
            tree.insert(59, 3);
            return tree;
        }, tree -> tree.ahead(59), 58);
        Check.asked("ahead of the first below a parent", Texts::full, tree -> tree.ahead(57), -1);
        Check.asked("ahead of the only one of its level", Texts::told, tree -> tree.ahead(5), -1);
        Check.asked("ahead of a frozen one, with letters", Texts::held, tree -> tree.ahead(3), 7);
        Check.asked("ahead of a lettered one", Texts::held, tree -> tree.ahead(7), 1);
    }

    private static void used() {
        Check.asked("used in an empty text", NumberingTree::new, NumberingTree::used, 0);
        Check.asked("used by none", Texts::full, NumberingTree::used, 0);
        Check.asked("used by one", () -> Check.frozenTree(4), NumberingTree::used, 1);
        Check.asked("used in a full text", Texts::fullHeld, NumberingTree::used, 48);
        Check.asked("used by removed ones", Texts::held, NumberingTree::used, 6);
        Check.asked("used by 60 that are removed", () -> {
            NumberingTree tree = Texts.row(60, 1);
            tree.freeze();
            for (int name = 0; name < 60; name++) {
                tree.remove(name);
            }
            return tree;
        }, NumberingTree::used, 60);
        Check.asked("used in groups that are gone", () -> {
            NumberingTree tree = Check.frozenTree(1, 2, 1, 2);
            tree.remove(1);
            tree.remove(0);
            return tree;
        }, NumberingTree::used, 4);
        Check.asked("used of the same number in two groups", () -> Check.frozenTree(2, 1, 2, 1, 2),
                NumberingTree::used, 5);
    }
}
