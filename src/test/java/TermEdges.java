import java.util.HashSet;
import java.util.List;
import java.util.Set;

/** The boundary cases of the words that all promises share. */
final class TermEdges {
    private static final Class<IllegalArgumentException> ARGUMENT = IllegalArgumentException.class;
    private static final Class<IllegalStateException> STATE = IllegalStateException.class;
    private static final Class<UnsupportedOperationException> HELD = UnsupportedOperationException.class;

    private TermEdges() {
    }

    static List<Edge> all() {
        return List.of(
                terms("Numbers are found as they are kept", TermEdges::foundBothWays),
                terms("Frozen numbers never change", TermEdges::frozenNumbersStay),
                terms("Frozen numbers never change", TermEdges::noNumberTwice),
                terms("At most 60 paragraphs", TermEdges::sixtyParagraphs),
                terms("Those that are not removed", TermEdges::placesFromZero),
                terms("A paragraph has a level", TermEdges::levels),
                terms("The parent of a paragraph", TermEdges::parents),
                terms("A plain paragraph has no parent", TermEdges::plainOnes),
                terms("A paragraph is above another one", TermEdges::above),
                terms("A level from 1 to 4 goes on", TermEdges::beginsAnewAtFirst),
                terms("All paragraphs of a level that goes on", TermEdges::groups),
                terms("A group has the order", TermEdges::groupOrder),
                terms("When the text is frozen", TermEdges::becomesFrozen),
                terms("A frozen paragraph stays", TermEdges::frozenStays),
                terms("Its number was used", TermEdges::usedNotGivenAgain),
                terms("Its number was used", TermEdges::usedInTheSameGroup),
                terms("Its number was used", TermEdges::usedInAnotherGroup),
                terms("A paragraph that is not plain has a number", TermEdges::lettersTold),
                terms("The paragraphs of a group are numbered", TermEdges::numberedInOrder),
                terms("A frozen one has its number", TermEdges::frozenHasNoLetters),
                terms("Any other one has the next number", TermEdges::nextBetweenFrozen),
                terms("Any other one has the next number", TermEdges::nextBehindAll),
                terms("Any other one has the next number", TermEdges::nextNotTaken),
                terms("Any other one has the next number", TermEdges::nextWhenOneBehindIsFrozen),
                terms("But if there is a frozen one behind it", TermEdges::letters),
                terms("A level has a format", TermEdges::decimalDigits),
                terms("A level has a format", TermEdges::smallLetters),
                terms("A level has a format", TermEdges::romanNumerals),
                terms("The number 0 is", TermEdges::zero),
                terms("What a paragraph shows", TermEdges::greatLetters),
                terms("The label of a paragraph", TermEdges::labels),
                terms("At most 30 references", TermEdges::thirtyReferences),
                terms("It shows the label of the target", TermEdges::shown),
                terms("It shows the label of the target", TermEdges::shownToPlain),
                terms("It is broken", TermEdges::broken),
                terms("A method that throws", RefusedEdges::changesNothing),
                terms("If several exceptions apply", RefusedEdges::firstListed));
    }

    private static Edge terms(String begins, Runnable test) {
        return new Edge(Edge.TERMS, begins, test);
    }

    /** Labels tell numbers and letters as they are kept; each must be the same by walk. */
    private static void labels(String what, NumberingTree tree, String due) {
        Check.same(what, Check.labels(tree), due);
        walked(what, tree);
    }

    private static void walked(String what, NumberingTree tree) {
        for (int place = 0; place < tree.size(); place++) {
            int name = tree.paragraphAt(place);
            if (tree.levelOf(name) != 0) {
                Check.same(what + ": numberByWalk(" + name + ")", tree.numberByWalk(name), tree.numberOf(name));
                Check.same(what + ": lettersByWalk(" + name + ")", tree.lettersByWalk(name), tree.lettersOf(name));
            }
        }
    }

    private static void foundBothWays() {
        walked("a single one", Texts.single());
        walked("a text with starts", Texts.told());
        walked("a text with letters", Texts.held());
        walked("a full text", Texts.full());
        walked("a full text with frozen ones", Texts.fullHeld());
        walked("59 lettered ones", NumberEdges.lettered());
        NumberingTree tree = NumberEdges.lettered();
        for (int name = 1; name < 60; name++) {
            Check.same("lettersByWalk(" + name + ")", tree.lettersByWalk(name), 60 - name);
            Check.same("numberByWalk(" + name + ")", tree.numberByWalk(name), 0);
        }
    }

    private static void frozenNumbersStay() {
        NumberingTree tree = Check.frozenTree(1, 1, 2, 2, 1);
        String due = "1 2 2.1 2.2 3";
        tree.skip(1, 1);
        tree.skip(2, 2);
        labels("when they are skipped", tree, due);
        tree.startAt(0, 999);
        tree.startAt(3, 5);
        labels("when they have starts", tree, due);
        tree.reserve(0, 20);
        tree.reserve(2, 20);
        labels("when numbers are reserved behind", tree, due);
        Check.same("freeze again", tree.freeze(), 0);
        labels("when the text is frozen again", tree, due);
        tree.insert(0, 1);
        tree.insert(2, 1);
        labels("when others are put between", tree, "0A 1 1A 2 2.1 2.2 3");
        tree.remove(0);
        tree.remove(2);
        labels("when others are removed", tree, "0A 0B 2 2.2 3");
        tree.unskip(1, 1);
        labels("when a number is free that was used", tree, "0A 0B 2 2.2 3");
    }

    private static void noNumberTwice() {
        NumberingTree tree = Texts.row(20, 1);
        tree.freeze();
        for (int i = 0; i < 40; i++) {
            tree.insert(i % 7 * 3, 1);
            if (i % 10 == 9) {
                tree.freeze();
            }
        }
        Set<String> found = new HashSet<>();
        for (int name = 0; name < 60; name++) {
            found.add(tree.numberOf(name) + " " + tree.lettersOf(name));
        }
        Check.same("numbers with letters", found.size(), 60);
        Check.same("isUnique", tree.isUnique(), true);
    }

    private static void sixtyParagraphs() {
        NumberingTree tree = new NumberingTree();
        for (int name = 0; name < 60; name++) {
            Check.same("insert", tree.insert(name / 2, 1 + name % 4), name);
        }
        Check.same("insert of the 61st", Check.thrownBy(() -> tree.insert(0, 1)), STATE);
        Check.same("remove of the sixtieth", tree.remove(59), 59);
        Check.same("insert when one is removed", Check.thrownBy(() -> tree.insert(0, 1)), STATE);
        Check.same("size", tree.size(), 59);
    }

    private static void placesFromZero() {
        NumberingTree tree = Texts.row(60, 1);
        tree.remove(0);
        tree.remove(59);
        tree.remove(30);
        for (int place = 0; place < 57; place++) {
            int due = place < 29 ? place + 1 : place + 2;
            Check.same("paragraphAt(" + place + ")", tree.paragraphAt(place), due);
            Check.same("placeOf(" + due + ")", tree.placeOf(due), place);
        }
        Check.same("paragraphAt(57)", Check.thrownBy(() -> tree.paragraphAt(57)), IndexOutOfBoundsException.class);
    }

    private static void levels() {
        NumberingTree tree = Check.tree(0, 1, 2, 3, 4);
        for (int level = 0; level <= 4; level++) {
            Check.same("levelOf", tree.levelOf(level), level);
        }
        Check.same("count of plain ones", tree.count('p'), 1);
        Check.same("count of others", tree.count('o'), 4);
        Check.refusedBeyond("insert", 0, 4, ARGUMENT, Texts::held, (text, level) -> text.insert(7, level));
    }

    private static void parents() {
        parents("next level", "-1 0 1 2", 1, 2, 3, 4);
        parents("ahead of lower ones", "-1 -1 -1 -1", 4, 3, 2, 1);
        parents("the same level", "-1 0 0 0", 1, 3, 3, 3);
        parents("levels left out", "-1 0 0 2", 1, 4, 2, 4);
        parents("the last one, not the lowest", "-1 0 1 1 0 4", 1, 2, 3, 3, 2, 4);
        parents("another one of the first level ahead", "-1 -1 1 -1", 1, 1, 2, 1);
        parents("none that is lower", "-1 -1 -1", 3, 4 - 1, 3);
    }

    private static void parents(String what, String due, int... levels) {
        NumberingTree tree = Check.tree(levels);
        StringBuilder got = new StringBuilder();
        for (int name = 0; name < levels.length; name++) {
            got.append(name == 0 ? "" : " ").append(tree.parentOf(name));
        }
        Check.same(what, got.toString(), due);
    }

    private static void plainOnes() {
        NumberingTree tree = Check.tree(1, 0, 2, 0, 3);
        Check.same("parentOf a plain one", Check.thrownBy(() -> tree.parentOf(1)), STATE);
        Check.same("parentOf one behind a plain one", tree.parentOf(2), 0);
        Check.same("parentOf the next one behind a plain one", tree.parentOf(4), 2);
        Check.same("below, without plain ones", tree.below(0), 2);
        Check.same("below a plain one", tree.below(1), 0);
        tree.refer(3, 4);
        Check.same("a reference from a plain one", Check.reference(tree, 0), "1.1.1");
        Check.same("freeze without plain ones", tree.freeze(), 3);
        Check.same("move of a plain one between frozen ones", tree.move(3, 1), 3);
    }

    private static void above() {
        NumberingTree tree = Check.tree(1, 2, 3, 4, 4, 3, 2, 1, 4);
        int[] due = {6, 4, 2, 0, 0, 0, 0, 1, 0};
        for (int name = 0; name < due.length; name++) {
            Check.same("below(" + name + ")", tree.below(name), due[name]);
        }
    }

    private static void beginsAnewAtFirst() {
        for (int level = 1; level <= 4; level++) {
            Check.same("setGoingOn(" + level + ", false) at first", new NumberingTree().setGoingOn(level, false), false);
        }
        labels("all levels begin anew", Check.tree(1, 2, 3, 4, 1, 2, 3, 4), "1 1.1 1.1.1 1.1.1.1 2 2.1 2.1.1 2.1.1.1");
    }

    private static void groups() {
        NumberingTree tree = Check.tree(2, 2, 1, 2, 4, 2, 4, 1, 2, 4);
        labels("with the same parent, and without one", tree, "1 2 1 1.1 1.1.1 1.2 1.2.1 2 2.1 2.1.1");
        tree.setGoingOn(2, true);
        labels("all of the second level", tree, "1 2 1 1.3 1.3.1 1.4 1.4.1 2 2.5 2.5.1");
        tree.setGoingOn(2, false);
        tree.setGoingOn(4, true);
        labels("all of the fourth level", tree, "1 2 1 1.1 1.1.1 1.2 1.2.2 2 2.1 2.1.3");
        Check.same("ahead of the last", tree.ahead(9), 6);
        tree.setGoingOn(4, false);
        Check.same("ahead of the last then", tree.ahead(9), -1);
        NumberingTree parts = Check.tree(1, 3, 2, 3, 3);
        labels("with parents of two levels", parts, "1 1.1 1.1 1.1.1 1.1.2");
    }

    private static void groupOrder() {
        NumberingTree tree = Texts.row(4, 1);
        tree.move(3, 0);
        Check.same("ahead of the one that was the first", tree.ahead(0), 3);
        Check.same("ahead of the first", tree.ahead(3), -1);
        Check.same("numberOf the first", tree.numberOf(3), 1);
        Check.same("numberOf the last", tree.numberOf(2), 4);
    }

    private static void becomesFrozen() {
        NumberingTree tree = Check.tree(2, 1, 2, 3, 4, 0);
        Check.same("freeze of all that are not plain", tree.freeze(), 5);
        NumberingTree lettered = Check.frozenTree(1, 1);
        lettered.insert(1, 1);
        lettered.insert(2, 2);
        lettered.insert(3, 3);
        lettered.insert(5, 4);
        Check.same("freeze with a lettered one", lettered.freeze(), 1);
        boolean[] due = {true, true, false, false, false, true};
        for (int name = 0; name < due.length; name++) {
            Check.same("isFrozen(" + name + ")", lettered.isFrozen(name), due[name]);
        }
        labels("labels then", lettered, "1 1A 1A.1 1A.1.1 2 2.1");
        lettered.setLevel(2, 0);
        Check.same("freeze when the lettered one is plain", lettered.freeze(), 2);
        labels("labels of them", lettered, "1 - 1.1 1.1.1 2 2.1");
    }

    private static void frozenStays() {
        NumberingTree tree = Check.frozenTree(1, 2, 3);
        for (int name = 0; name < 3; name++) {
            int frozen = name;
            for (int to = 0; to <= 4; to++) {
                int each = to;
                Check.same("setLevel", Check.thrownBy(() -> tree.setLevel(frozen, each)), HELD);
                Check.same("move", Check.thrownBy(() -> tree.move(frozen, each % 3)), HELD);
            }
        }
        Check.same("insert ahead of all", tree.insert(0, 0), 3);
        Check.same("placeOf the last then", tree.placeOf(2), 3);
        Check.same("insert that takes a child", Check.thrownBy(() -> tree.insert(3, 1)), HELD);
        Check.same("remove of a parent", Check.thrownBy(() -> tree.remove(1)), HELD);
        Check.same("remove of the last", tree.remove(2), 3);
        Check.same("remove of the next", tree.remove(1), 2);
        Check.same("remove of the first", tree.remove(0), 1);
    }

    private static void usedNotGivenAgain() {
        NumberingTree tree = Check.frozenTree(1, 1, 1);
        tree.remove(2);
        tree.insert(2, 1);
        labels("behind the last one that is removed", tree, "1 2 4");
        tree.remove(1);
        tree.remove(0);
        labels("when all are removed", tree, "4");
        tree.startAt(3, 2);
        labels("with a start that was used", tree, "4");
        tree.freeze();
        tree.remove(3);
        tree.insert(0, 1);
        labels("once more", tree, "5");
        Check.same("used", tree.used(), 4);
        NumberingTree full = Texts.row(59, 1);
        full.freeze();
        for (int name = 0; name < 59; name++) {
            full.remove(name);
        }
        full.insert(0, 1);
        labels("the sixtieth when all others were frozen and removed", full, "60");
    }

    private static void usedInTheSameGroup() {
        NumberingTree tree = Check.frozenTree(1, 2, 1);
        tree.remove(1);
        tree.insert(1, 2);
        tree.insert(3, 2);
        labels("below the same parent, and another one", tree, "1 1.2 2 2.1");
        tree.setGoingOn(2, true);
        labels("going on", tree, "1 1.1 2 2.2");
        tree.setGoingOn(2, false);
        labels("begun anew once more", tree, "1 1.2 2 2.1");
        tree.move(3, 0);
        labels("without a parent", tree, "1 1 2 2.1");
        tree.move(3, 1);
        labels("below the same parent once more", tree, "1 1.2 2 2.1");
        NumberingTree alone = Check.frozenTree(3);
        alone.remove(0);
        alone.insert(0, 3);
        labels("without a parent", alone, "2");
        alone.insert(0, 1);
        labels("with a parent", alone, "1 1.1");
        alone.remove(2);
        labels("without a parent once more", alone, "2");
        alone.setLevel(1, 2);
        labels("of another level", alone, "1");
    }

    /** That of no parent, that of the level that goes on, and those of the first and the last paragraph as parents. */
    private static void usedInAnotherGroup() {
        for (int level = 1; level <= 4; level++) {
            NumberingTree tree = Check.frozenTree(level);
            tree.remove(0);
            tree.insert(0, level);
            labels("the group without a parent", tree, "2");
            tree.setGoingOn(level, true);
            labels("the level that goes on", tree, "1");
            Check.same("freeze", tree.freeze(), 1);
            tree.remove(1);
            tree.insert(0, level);
            labels("the level that goes on, once more", tree, "2");
            tree.setGoingOn(level, false);
            labels("the group without a parent, once more", tree, "2");
            Check.same("used", tree.used(), 2);
        }
        for (int level = 1; level < 4; level++) {
            NumberingTree tree = Texts.row(58, 0);
            int next = level + 1;
            tree.setLevel(57, level);
            tree.insert(58, next);
            Check.same("freeze of the last two", tree.freeze(), 2);
            tree.remove(58);
            tree.insert(58, next);
            Check.same("numberOf one below the same parent", tree.numberOf(59), 2);
            tree.setGoingOn(next, true);
            Check.same("numberOf one of the level that goes on", tree.numberOf(59), 1);
            tree.setGoingOn(next, false);
            tree.move(59, 0);
            Check.same("numberOf one without a parent", tree.numberOf(59), 1);
            Check.same("ahead of one without a parent", tree.ahead(59), -1);
        }
    }

    private static void lettersTold() {
        NumberingTree tree = NumberEdges.lettered();
        int[] letters = {1, 2, 26, 27, 52, 53, 59};
        String[] due = {"A", "B", "Z", "AA", "AZ", "BA", "BG"};
        for (int i = 0; i < letters.length; i++) {
            int name = 60 - letters[i];
            Check.same("lettersOf(" + name + ")", tree.lettersOf(name), letters[i]);
            Check.same("label of " + name, Check.label(tree, name), "0" + due[i]);
        }
        Check.same("lettersOf without", tree.lettersOf(0), 0);
        Check.same("label without", Check.label(tree, 0), "1");
    }

    private static void numberedInOrder() {
        NumberingTree tree = Texts.row(60, 2);
        for (int place = 0; place < 60; place++) {
            Check.same("numberOf(" + place + ")", tree.numberOf(place), place + 1);
        }
        tree.move(59, 0);
        Check.same("numberOf the one that is the first now", tree.numberOf(59), 1);
        Check.same("numberOf the one that is the second now", tree.numberOf(0), 2);
        Check.same("numberOf the one that is the last now", tree.numberOf(58), 60);
    }

    private static void frozenHasNoLetters() {
        NumberingTree tree = Check.frozenTree(1, 1);
        tree.insert(0, 1);
        tree.insert(2, 1);
        for (int name = 0; name < 2; name++) {
            Check.same("numberOf(" + name + ")", tree.numberOf(name), name + 1);
            Check.same("lettersOf(" + name + ")", tree.lettersOf(name), 0);
            Check.same("lettersByWalk(" + name + ")", tree.lettersByWalk(name), 0);
        }
        labels("others have letters", tree, "0A 1 1A 2");
    }

    /** Between two frozen ones, neither starts nor reserved numbers count. */
    private static void nextBetweenFrozen() {
        NumberingTree tree = Texts.row(2, 1);
        tree.startAt(0, 3);
        tree.startAt(1, 7);
        tree.freeze();
        tree.reserve(0, 20);
        tree.insert(1, 1);
        tree.startAt(2, 6);
        labels("from the number of the one ahead plus 1", tree, "3 4 7");
        tree.reserve(2, 20);
        tree.insert(2, 1);
        labels("from that of one that is not frozen", tree, "3 4 5 7");
        tree.insert(0, 1);
        tree.startAt(4, 2);
        labels("from 1 without one", tree, "1 3 4 5 7");
        tree.remove(1);
        labels("when none is behind, reserved numbers count", tree, "1 3 24 45");
    }

    private static void nextBehindAll() {
        int[] starts = {0, 1, 9, 10, 11, 999};
        int[] due = {10, 10, 10, 10, 11, 999};
        for (int i = 0; i < starts.length; i++) {
            NumberingTree tree = Check.frozenTree(1);
            tree.reserve(0, 8);
            tree.insert(1, 1);
            tree.startAt(1, starts[i]);
            labels("8 reserved, with the start " + starts[i], tree, "1 " + due[i]);
        }
        int[] first = {0, 1, 2, 999};
        int[] dueFirst = {1, 1, 2, 999};
        for (int i = 0; i < first.length; i++) {
            NumberingTree tree = Texts.row(2, 4);
            tree.startAt(0, first[i]);
            labels("without one ahead, with the start " + first[i], tree, dueFirst[i] + " " + (dueFirst[i] + 1));
        }
        NumberingTree most = Texts.row(2, 1);
        most.startAt(0, 999);
        most.reserve(0, 20);
        labels("behind the greatest start with the most reserved", most, "999 1020");
    }

    private static void nextNotTaken() {
        NumberingTree tree = Check.frozenTree(1, 1, 1);
        tree.remove(2);
        tree.skip(1, 4);
        tree.insert(2, 1);
        labels("a used one and a skipped one behind it", tree, "1 2 5");
        tree.reserve(1, 1);
        labels("one reserved, which is the skipped one", tree, "1 2 5");
        tree.startAt(3, 4);
        labels("a start that is skipped", tree, "1 2 5");
        tree.startAt(3, 3);
        labels("a start that is used", tree, "1 2 5");
        tree.unskip(1, 4);
        labels("skipped no more", tree, "1 2 4");
        NumberingTree edge = Texts.row(2, 1);
        edge.startAt(0, 98);
        edge.skip(1, 99);
        labels("the greatest that can be skipped", edge, "98 100");
        NumberingTree other = Texts.row(2, 1);
        other.skip(2, 1);
        labels("skipped for another level", other, "1 2");
    }

    /** One below a lettered one stays as it is; when the one behind it becomes frozen, nothing is reserved for it. */
    private static void nextWhenOneBehindIsFrozen() {
        NumberingTree tree = Check.frozenTree(1, 1);
        tree.setGoingOn(2, true);
        tree.insert(1, 2);
        tree.insert(2, 1);
        tree.insert(3, 2);
        tree.insert(5, 2);
        tree.reserve(2, 20);
        tree.startAt(4, 30);
        labels("while none is frozen", tree, "1 1.1 1A 1A.30 2 2.31");
        Check.same("freeze", tree.freeze(), 2);
        labels("with a frozen one behind", tree, "1 1.1 1A 1A.2 2 2.31");
        tree.remove(5);
        labels("when that is removed", tree, "1 1.1 1A 1A.30 2");
    }

    private static void letters() {
        NumberingTree tree = Texts.row(2, 1);
        tree.startAt(1, 3);
        tree.freeze();
        tree.insert(1, 1);
        labels("the number before that of the frozen one", tree, "1 2 3");
        tree.insert(2, 1);
        labels("the number of the frozen one", tree, "1 2 2A 3");
        tree.insert(3, 1);
        labels("one letter more", tree, "1 2 2A 2B 3");
        tree.skip(1, 2);
        labels("a number that is skipped up to that of the frozen one", tree, "1 1A 1B 1C 3");
        tree.insert(0, 1);
        labels("0 without one ahead", tree, "0A 1 1A 1B 1C 3");
        tree.insert(6, 1);
        labels("no letters where none is behind", tree, "0A 1 1A 1B 1C 3 4");
        NumberingTree beyond = Texts.row(2, 2);
        beyond.startAt(1, 3);
        beyond.freeze();
        beyond.skip(2, 2);
        beyond.skip(2, 3);
        beyond.skip(2, 4);
        beyond.insert(1, 2);
        labels("a number beyond that of the frozen one", beyond, "1 1A 3");
        NumberingTree first = Check.frozenTree(1, 1, 1);
        first.remove(1);
        first.insert(1, 1);
        labels("a number that was used between two", first, "1 1A 3");
        NumberingTree two = Texts.row(2, 1);
        two.startAt(0, 2);
        two.startAt(1, 9);
        two.freeze();
        two.insert(0, 1);
        two.insert(1, 1);
        labels("the first such one counts, not the last", two, "1 1A 2 9");
    }

    private static String shown(char format, int number) {
        NumberingTree tree = Texts.row(2, 3);
        tree.setFormat(3, format);
        tree.startAt(0, number > 999 ? 999 : number);
        tree.reserve(0, number > 999 ? number - 1000 : 0);
        return Check.label(tree, number > 999 ? 1 : 0);
    }

    private static void decimalDigits() {
        int[] numbers = {1, 9, 10, 99, 100, 999, 1000, 1020};
        for (int number : numbers) {
            Check.same("d of " + number, shown('d', number), Integer.toString(number));
        }
    }

    private static void smallLetters() {
        int[] numbers = {1, 2, 25, 26, 27, 28, 51, 52, 53, 78, 79, 676, 677, 701, 702, 703, 704, 728, 729, 999, 1000};
        String[] due = {"a", "b", "y", "z", "aa", "ab", "ay", "az", "ba", "bz", "ca", "yz", "za", "zy", "zz", "aaa",
            "aab", "aaz", "aba", "alk", "all"};
        for (int i = 0; i < due.length; i++) {
            Check.same("l of " + numbers[i], shown('l', numbers[i]), due[i]);
        }
    }

    private static void romanNumerals() {
        int[] numbers = {1, 3, 4, 5, 8, 9, 10, 39, 40, 49, 50, 89, 90, 99, 100, 399, 400, 499, 500, 888, 899, 900, 999,
            1000, 1001, 1020};
        String[] due = {"i", "iii", "iv", "v", "viii", "ix", "x", "xxxix", "xl", "xlix", "l", "lxxxix", "xc", "xcix",
            "c", "cccxcix", "cd", "cdxcix", "d", "dccclxxxviii", "dcccxcix", "cm", "cmxcix", "m", "mi", "mxx"};
        for (int i = 0; i < due.length; i++) {
            Check.same("r of " + numbers[i], shown('r', numbers[i]), due[i]);
            Check.same("R of " + numbers[i], shown('R', numbers[i]), due[i].toUpperCase());
        }
    }

    private static void zero() {
        String formats = "dlrR";
        for (int i = 0; i < formats.length(); i++) {
            for (int level = 1; level <= 4; level++) {
                NumberingTree tree = Check.frozenTree(level);
                tree.setFormat(level, formats.charAt(i));
                tree.insert(0, level);
                Check.same("numberOf", tree.numberOf(1), 0);
                Check.same("0 in the format " + formats.charAt(i), Check.label(tree, 1), "0A");
            }
        }
    }

    private static void greatLetters() {
        String formats = "dlrR";
        String[] number = {"1", "a", "i", "I"};
        for (int i = 0; i < formats.length(); i++) {
            NumberingTree tree = Check.frozenTree(1, 1);
            tree.setFormat(1, formats.charAt(i));
            for (int name = 2; name < 60; name++) {
                tree.insert(name - 1, 1);
            }
            Check.same("1 letter", Check.label(tree, 2), number[i] + "A");
            Check.same("25 letters", Check.label(tree, 26), number[i] + "Y");
            Check.same("26 letters", Check.label(tree, 27), number[i] + "Z");
            Check.same("27 letters", Check.label(tree, 28), number[i] + "AA");
            Check.same("28 letters", Check.label(tree, 29), number[i] + "AB");
            Check.same("52 letters", Check.label(tree, 53), number[i] + "AZ");
            Check.same("53 letters", Check.label(tree, 54), number[i] + "BA");
            Check.same("58 letters", Check.label(tree, 59), number[i] + "BF");
        }
    }

    private static void labels() {
        labels("one part", Check.tree(4), "1");
        labels("four parts", Check.tree(1, 2, 3, 4), "1 1.1 1.1.1 1.1.1.1");
        labels("parts of levels left out", Check.tree(1, 4, 0, 3, 4), "1 1.1 - 1.1 1.1.1");
        NumberingTree tree = Check.tree(1, 2, 3, 4);
        for (int level = 1; level <= 4; level++) {
            tree.startAt(level - 1, 4);
            tree.setFormat(level, "dlrR".charAt(level - 1));
        }
        labels("each in the format of its level", tree, "4 4.d 4.d.iv 4.d.iv.IV");
        NumberingTree lettered = Check.frozenTree(1, 2, 1);
        lettered.insert(1, 2);
        lettered.insert(2, 3);
        lettered.insert(0, 1);
        lettered.insert(1, 2);
        labels("letters in each part", lettered, "0A 0A.1 1 1.0A 1.0A.1 1.1 2");
    }

    private static void thirtyReferences() {
        NumberingTree tree = Check.tree(1, 1);
        for (int number = 0; number < 30; number++) {
            Check.same("refer", tree.refer(number % 2, 1 - number % 2), number);
        }
        Check.same("refer as the 31st", Check.thrownBy(() -> tree.refer(0, 1)), STATE);
        Check.same("references", tree.references(), 30);
        for (int number = 0; number < 30; number++) {
            Check.same("targetOf(" + number + ")", tree.targetOf(number), 1 - number % 2);
        }
        tree.remove(0);
        Check.same("broken", tree.broken(), 30);
        Check.same("refer to another one", Check.thrownBy(() -> tree.refer(1, 1)), ARGUMENT);
    }

    private static String shown(int source, int target) {
        NumberingTree tree = Check.tree(1, 2, 3, 4, 4, 3, 2, 1, 2, 0);
        tree.refer(source, target);
        return Check.reference(tree, 0);
    }

    private static void shown() {
        Check.same("with the same parent", shown(4, 3), "1");
        Check.same("with the same parent's parent", shown(5, 3), "1.1");
        Check.same("with the same first one", shown(6, 3), "1.1.1");
        Check.same("without any shared", shown(8, 3), "1.1.1.1");
        Check.same("from one of the first level", shown(7, 3), "1.1.1.1");
        Check.same("from the parent", shown(2, 3), "1");
        Check.same("from the parent's parent", shown(1, 3), "1.1");
        Check.same("from the first one above", shown(0, 3), "1.1.1");
        Check.same("to the parent", shown(3, 2), "1");
        Check.same("to the parent's parent", shown(3, 1), "1");
        Check.same("to the first one above", shown(3, 0), "1");
        Check.same("to another of the first level", shown(3, 7), "2");
        Check.same("from a plain one", shown(9, 3), "1.1.1.1");
        Check.same("from a plain one to one that it stands behind", shown(9, 8), "2.1");
    }

    private static void shownToPlain() {
        NumberingTree tree = Check.tree(1, 2, 2);
        tree.refer(1, 2);
        tree.refer(0, 1);
        tree.setLevel(2, 0);
        Check.same("to a plain one", Check.reference(tree, 0), "");
        Check.same("to one that is not plain", Check.reference(tree, 1), "1");
        tree.setLevel(1, 0);
        Check.same("to another plain one", Check.reference(tree, 1), "");
        Check.same("broken", tree.broken(), 0);
        tree.setLevel(2, 1);
        Check.same("to one that is plain no more", Check.reference(tree, 0), "2");
        tree.setLevel(1, 3);
        Check.same("from the one above it, when that is plain no more", Check.reference(tree, 1), "1");
    }

    private static void broken() {
        NumberingTree tree = Check.tree(1, 1, 1, 1);
        tree.refer(0, 1);
        tree.refer(1, 2);
        tree.refer(2, 0);
        tree.remove(3);
        Check.same("when another one is removed", tree.broken(), 0);
        tree.remove(0);
        Check.same("isBroken(0), by its source", tree.isBroken(0), true);
        Check.same("isBroken(1), by none", tree.isBroken(1), false);
        Check.same("isBroken(2), by its target", tree.isBroken(2), true);
        tree.remove(1);
        tree.remove(2);
        Check.same("by both ends", tree.broken(), 3);
    }
}
