import java.util.List;
import java.util.NoSuchElementException;
import java.util.function.Consumer;
import java.util.function.Function;
import java.util.function.Supplier;

/** What holds for all calls that throw: nothing is changed, and the exception that is listed first is thrown. */
final class RefusedEdges {
    private static final Class<NoSuchElementException> ABSENT = NoSuchElementException.class;
    private static final Class<IllegalArgumentException> ARGUMENT = IllegalArgumentException.class;
    private static final Class<IllegalStateException> STATE = IllegalStateException.class;
    /** What each text refuses: names, places, levels and the like that are out of range everywhere. */
    private static final List<Consumer<NumberingTree>> REFUSED = List.of(
            tree -> tree.insert(-1, 1), tree -> tree.insert(61, 1), tree -> tree.insert(0, -1),
            tree -> tree.insert(0, 5), tree -> tree.move(-1, 0), tree -> tree.move(60, 0), tree -> tree.move(0, 60),
            tree -> tree.setLevel(60, 1), tree -> tree.setLevel(0, 5), tree -> tree.setLevel(0, -1),
            tree -> tree.remove(60), tree -> tree.remove(-1), tree -> tree.startAt(60, 1),
            tree -> tree.startAt(0, 1000), tree -> tree.startAt(0, -1), tree -> tree.reserve(60, 1),
            tree -> tree.reserve(0, 21), tree -> tree.reserve(0, -1), tree -> tree.skip(0, 1), tree -> tree.skip(5, 1),
            tree -> tree.skip(1, 0), tree -> tree.skip(1, 100), tree -> tree.unskip(0, 7), tree -> tree.unskip(5, 7),
            tree -> tree.unskip(1, 0), tree -> tree.unskip(1, 100), tree -> tree.unskip(1, 50),
            tree -> tree.setFormat(0, 'l'), tree -> tree.setFormat(5, 'l'), tree -> tree.setFormat(1, 'x'),
            tree -> tree.setGoingOn(0, true), tree -> tree.setGoingOn(5, true), tree -> tree.refer(60, 1),
            tree -> tree.refer(1, 60), tree -> tree.refer(0, 0), tree -> tree.paragraphAt(60),
            tree -> tree.placeOf(60), tree -> tree.levelOf(60), tree -> tree.parentOf(60), tree -> tree.below(60),
            tree -> tree.isFrozen(60), tree -> tree.numberOf(60), tree -> tree.lettersOf(60),
            tree -> tree.numberByWalk(60), tree -> tree.lettersByWalk(60), tree -> tree.ahead(60),
            tree -> tree.labelLength(60), tree -> tree.labelAt(60, 0), tree -> tree.labelAt(1, 99),
            tree -> tree.find(0, 1), tree -> tree.find(1, 0), tree -> tree.targetOf(30), tree -> tree.isBroken(30),
            tree -> tree.referenceLength(30), tree -> tree.referenceAt(30, 0), tree -> tree.referenceAt(0, 99),
            tree -> tree.count('x'), tree -> tree.meanNumber(0), tree -> tree.meanNumber(5));

    private RefusedEdges() {
    }

    static void changesNothing() {
        changesNothing("an empty text", NumberingTree::new);
        changesNothing("plain ones", Texts::plain);
        changesNothing("a text with starts", Texts::told);
        changesNothing("a text with letters", Texts::held);
        changesNothing("a full text", Texts::full);
        changesNothing("a full text with frozen ones", Texts::fullHeld);
        changesNothing("an empty text that was full", Texts::spent);
    }

    /** All that is refused, one call behind the other on the same object. */
    private static void changesNothing(String what, Supplier<NumberingTree> maker) {
        for (Function<NumberingTree, String> part : Snapshot.PARTS) {
            NumberingTree called = maker.get();
            for (int i = 0; i < REFUSED.size(); i++) {
                Consumer<NumberingTree> call = REFUSED.get(i);
                Check.same("refused call " + i + " on " + what, Check.thrownBy(() -> call.accept(called)) != null, true);
            }
            Check.same(what, part.apply(called), part.apply(maker.get()));
        }
    }

    static void firstListed() {
        insert();
        moveAndSetLevel();
        startAtAndReserve();
        skipAndUnskip();
        refer();
        removedPlain();
        indexes();
        findAndMean();
    }

    private static void insert() {
        first("insert at no place as the 61st", ARGUMENT, Texts::full, tree -> tree.insert(61, 0));
        first("insert at -1 as the 61st", ARGUMENT, Texts::full, tree -> tree.insert(-1, 0));
        first("insert of no level as the 61st", ARGUMENT, Texts::full, tree -> tree.insert(0, 5));
        first("insert of the level -1 as the 61st", ARGUMENT, Texts::full, tree -> tree.insert(60, -1));
        first("insert at no place when all are removed", ARGUMENT, Texts::spent, tree -> tree.insert(1, 1));
        first("insert as the 61st, ahead of a frozen child", STATE, Texts::fullHeld, tree -> tree.insert(2, 1));
        first("insert of no level as the 61st, there", ARGUMENT, Texts::fullHeld, tree -> tree.insert(2, 5));
        first("insert of no level ahead of a frozen child", ARGUMENT, Texts::held, tree -> tree.insert(2, -1));
    }

    private static void moveAndSetLevel() {
        first("move of a removed one to no place", ABSENT, Texts::told, tree -> tree.move(6, 6));
        first("move of none to no place", ABSENT, Texts::told, tree -> tree.move(-1, -1));
        first("move where all are removed", ABSENT, Texts::spent, tree -> tree.move(0, 0));
        first("move of a removed frozen one", ABSENT, Texts::held, tree -> tree.move(6, 0));
        first("move of a removed frozen one to no place", ABSENT, Texts::held, tree -> tree.move(6, 7));
        first("move of a frozen one to no place", ARGUMENT, Texts::held, tree -> tree.move(0, 7));
        first("move of a frozen one to -1", ARGUMENT, Texts::held, tree -> tree.move(4, -1));
        first("setLevel of a removed one to no level", ABSENT, Texts::told, tree -> tree.setLevel(6, 5));
        first("setLevel of none to no level", ABSENT, Texts::told, tree -> tree.setLevel(-1, -1));
        first("setLevel of a removed frozen one", ABSENT, Texts::held, tree -> tree.setLevel(6, 1));
        first("setLevel of a removed frozen one to no level", ABSENT, Texts::held, tree -> tree.setLevel(6, 5));
        first("setLevel of a frozen one to no level", ARGUMENT, Texts::held, tree -> tree.setLevel(0, 5));
        first("setLevel of a frozen one to -1", ARGUMENT, Texts::held, tree -> tree.setLevel(4, -1));
        first("remove of a removed frozen one", ABSENT, Texts::held, tree -> tree.remove(6));
    }

    private static void startAtAndReserve() {
        int[] names = {6, 7, 60, -1};
        for (int name : names) {
            first("startAt of none with 1000", ABSENT, Texts::told, tree -> tree.startAt(name, 1000));
            first("startAt of none with -1", ABSENT, Texts::told, tree -> tree.startAt(name, -1));
            first("reserve of 21 behind none", ABSENT, Texts::told, tree -> tree.reserve(name, 21));
            first("reserve of -1 behind none", ABSENT, Texts::told, tree -> tree.reserve(name, -1));
        }
    }

    private static void skipAndUnskip() {
        first("skip of no number for no level", ARGUMENT, Texts::told, tree -> tree.skip(5, 100));
        first("skip for no level of what others skip", ARGUMENT, Texts::told, tree -> tree.skip(0, 7));
        first("unskip of what is not skipped for no level", ARGUMENT, Texts::told, tree -> tree.unskip(0, 50));
        first("unskip of what is not skipped for no level", ARGUMENT, Texts::told, tree -> tree.unskip(5, 50));
        first("unskip of no number, which is not skipped", ARGUMENT, Texts::told, tree -> tree.unskip(1, 100));
        first("unskip of 0, which is not skipped", ARGUMENT, Texts::told, tree -> tree.unskip(1, 0));
    }

    private static void refer() {
        first("refer from none to itself", ABSENT, Texts::told, tree -> tree.refer(6, 6));
        first("refer from none to a plain one", ABSENT, Texts::told, tree -> tree.refer(6, 3));
        first("refer to a removed plain one", ABSENT, RefusedEdges::plainRemoved, tree -> tree.refer(0, 3));
        first("refer from none as the 31st", ABSENT, Texts::full, tree -> tree.refer(60, 1));
        first("refer to none as the 31st", ABSENT, Texts::full, tree -> tree.refer(1, 60));
        first("refer from none to itself as the 31st", ABSENT, Texts::full, tree -> tree.refer(60, 60));
        first("refer from none to a plain one as the 31st", ABSENT, Texts::full, tree -> tree.refer(-1, 0));
        first("refer from one to itself as the 31st", ARGUMENT, Texts::full, tree -> tree.refer(1, 1));
        first("refer to a plain one as the 31st", ARGUMENT, Texts::full, tree -> tree.refer(1, 0));
        first("refer from a plain one to itself as the 31st", ARGUMENT, Texts::full, tree -> tree.refer(0, 0));
    }

    private static NumberingTree plainRemoved() {
        NumberingTree tree = Texts.told();
        tree.remove(3);
        return tree;
    }

    private static void removedPlain() {
        List<Consumer<NumberingTree>> calls = List.of(tree -> tree.parentOf(3), tree -> tree.numberOf(3),
                tree -> tree.lettersOf(3), tree -> tree.numberByWalk(3), tree -> tree.lettersByWalk(3),
                tree -> tree.ahead(3), tree -> tree.labelLength(3), tree -> tree.labelAt(3, 0),
                tree -> tree.labelAt(3, -1));
        for (int i = 0; i < calls.size(); i++) {
            first("call " + i + " of a removed plain one", ABSENT, RefusedEdges::plainRemoved, calls.get(i));
        }
    }

    private static void indexes() {
        int[] indexes = {-1, 99, Integer.MIN_VALUE, Integer.MAX_VALUE};
        for (int index : indexes) {
            first("labelAt of none, no index", ABSENT, Texts::told, tree -> tree.labelAt(7, index));
            first("labelAt of a removed one, no index", ABSENT, Texts::told, tree -> tree.labelAt(6, index));
            first("labelAt of a plain one, no index", STATE, Texts::told, tree -> tree.labelAt(3, index));
            first("referenceAt of none, no index", ABSENT, Texts::told, tree -> tree.referenceAt(3, index));
            first("referenceAt of -1, no index", ABSENT, Texts::told, tree -> tree.referenceAt(-1, index));
            first("referenceAt of a broken one, no index", STATE, Texts::told, tree -> tree.referenceAt(1, index));
        }
    }

    private static void findAndMean() {
        int[] levels = {0, 5, -1, Integer.MIN_VALUE, Integer.MAX_VALUE};
        for (int level : levels) {
            first("find of no number for no level", ARGUMENT, Texts::told, tree -> tree.find(level, 0));
            first("find for no level in an empty text", ARGUMENT, NumberingTree::new, tree -> tree.find(level, 1));
            first("meanNumber of no level in an empty text", ARGUMENT, NumberingTree::new,
                    tree -> tree.meanNumber(level));
            first("meanNumber of no level of plain ones", ARGUMENT, Texts::plain, tree -> tree.meanNumber(level));
        }
    }

    private static void first(String what, Class<? extends RuntimeException> due, Supplier<NumberingTree> maker,
            Consumer<NumberingTree> call) {
        Check.refused(what, due, maker, call);
    }
}
