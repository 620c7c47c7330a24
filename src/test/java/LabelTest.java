import java.util.NoSuchElementException;

/** Promises 10, 26, 27 and 38: formats, labels, and whether they differ. */
public final class LabelTest {
    private static final Class<NoSuchElementException> ABSENT = NoSuchElementException.class;
    private static final Class<IllegalArgumentException> ARGUMENT = IllegalArgumentException.class;
    private static final Class<IllegalStateException> STATE = IllegalStateException.class;
    private static final Class<IndexOutOfBoundsException> INDEX = IndexOutOfBoundsException.class;

    public static void main(String[] args) {
        setFormat();
        decimalDigits();
        letters();
        romanNumerals();
        greatestNumber();
        zero();
        greatLetters();
        chains();
        signs();
        wrongInputs();
        isUnique();
        Check.end("LabelTest");
    }

    private static NumberingTree small() {
        return Check.tree(1, 2, 2, 0, 1);
    }

    private static NumberingTree without(int paragraph) {
        NumberingTree tree = small();
        tree.remove(paragraph);
        return tree;
    }

    private static String shown(char format, int number) {
        NumberingTree tree = Check.tree(1);
        tree.setFormat(1, format);
        tree.startAt(0, number);
        return Check.label(tree, 0);
    }

    private static void setFormat() {
        NumberingTree tree = small();
        Check.same("setFormat(1, R)", tree.setFormat(1, 'R'), 'd');
        Check.same("setFormat(1, r)", tree.setFormat(1, 'r'), 'R');
        Check.same("setFormat(1, l)", tree.setFormat(1, 'l'), 'r');
        Check.same("setFormat(2, R)", tree.setFormat(2, 'R'), 'd');
        Check.same("labels", Check.labels(tree), "a a.I a.II - b");
        Check.same("setFormat(1, d)", tree.setFormat(1, 'd'), 'l');
        Check.same("setFormat(4, d)", tree.setFormat(4, 'd'), 'd');
        Check.same("labels then", Check.labels(tree), "1 1.I 1.II - 2");
        Check.refused("setFormat(0, d)", ARGUMENT, LabelTest::small, t -> t.setFormat(0, 'd'));
        Check.refused("setFormat(5, l)", ARGUMENT, LabelTest::small, t -> t.setFormat(5, 'l'));
        Check.refused("setFormat(1, D)", ARGUMENT, LabelTest::small, t -> t.setFormat(1, 'D'));
        Check.refused("setFormat(1, L)", ARGUMENT, LabelTest::small, t -> t.setFormat(1, 'L'));
        Check.refused("setFormat(1, 0)", ARGUMENT, LabelTest::small, t -> t.setFormat(1, (char) 0));
        Check.refused("setFormat(1, 65535)", ARGUMENT, LabelTest::small, t -> t.setFormat(1, (char) 65535));
    }

    private static void decimalDigits() {
        int[] numbers = {1, 9, 10, 11, 99, 100, 101, 110, 999};
        for (int number : numbers) {
            Check.same("digits of " + number, shown('d', number), "" + number);
        }
    }

    private static void letters() {
        int[] numbers = {1, 2, 26, 27, 28, 52, 53, 702, 703, 999};
        String[] due = {"a", "b", "z", "aa", "ab", "az", "ba", "zz", "aaa", "alk"};
        for (int i = 0; i < due.length; i++) {
            Check.same("letters of " + numbers[i], shown('l', numbers[i]), due[i]);
        }
    }

    private static void romanNumerals() {
        int[] numbers = {1, 2, 3, 4, 5, 6, 8, 9, 10, 14, 19, 40, 44, 50, 90, 99, 100, 400, 444, 500, 789, 900, 999};
        String[] due = {"i", "ii", "iii", "iv", "v", "vi", "viii", "ix", "x", "xiv", "xix", "xl", "xliv", "l", "xc",
            "xcix", "c", "cd", "cdxliv", "d", "dcclxxxix", "cm", "cmxcix"};
        for (int i = 0; i < due.length; i++) {
            Check.same("small Roman " + numbers[i], shown('r', numbers[i]), due[i]);
            Check.same("great Roman " + numbers[i], shown('R', numbers[i]), due[i].toUpperCase());
        }
    }

    /** Starts end at 999, but reserved numbers lead beyond it. */
    private static void greatestNumber() {
        NumberingTree tree = new NumberingTree();
        for (int i = 0; i < 60; i++) {
            tree.insert(i, 1);
            tree.reserve(i, 20);
        }
        tree.startAt(0, 999);
        Check.same("digits of the last", Check.label(tree, 59), "2238");
        tree.setFormat(1, 'l');
        Check.same("letters of the last", Check.label(tree, 59), "chb");
        tree.setFormat(1, 'r');
        Check.same("small Roman of the last", Check.label(tree, 59), "mmccxxxviii");
        tree.setFormat(1, 'R');
        Check.same("great Roman of the last", Check.label(tree, 59), "MMCCXXXVIII");
        thousands();
    }

    /**
     * Twenty paragraphs that cannot become frozen, since their parent has letters, move behind the last frozen one
     * again and again, so that the next to become frozen stands 420 and more numbers further on each time.
     */
    private static void thousands() {
        NumberingTree tree = new NumberingTree();
        for (int i = 0; i < 15; i++) {
            tree.insert(i, 1);
        }
        tree.freeze();
        tree.setGoingOn(2, true);
        tree.setFormat(2, 'r');
        tree.insert(1, 1);
        for (int i = 0; i < 20; i++) {
            tree.reserve(tree.insert(2 + i, 2), 20);
        }
        int last = -1;
        for (int round = 0; round < 10; round++) {
            if (last >= 0) {
                tree.reserve(last, 20);
                for (int i = 15; i < 36; i++) {
                    tree.move(i, tree.placeOf(i == 15 ? last : i - 1));
                }
            }
            last = tree.insert(tree.placeOf(1 + round) + 1, 2);
            tree.freeze();
        }
        Check.same("small Roman beyond 3999", tree.numberOf(last), 1 + 10 * 420 + 9 * 21);
        Check.same("label beyond 3999", Check.label(tree, last), "11.mmmmcccxc");
    }

    private static void zero() {
        char[] formats = {'d', 'l', 'r', 'R'};
        for (char format : formats) {
            NumberingTree tree = Check.frozenTree(1);
            tree.setFormat(1, format);
            tree.insert(0, 1);
            tree.insert(0, 1);
            Check.same("0 in format " + format, Check.label(tree, 1) + Check.label(tree, 2), "0B0A");
        }
    }

    private static void greatLetters() {
        NumberingTree tree = Check.frozenTree(1, 1);
        tree.setFormat(1, 'r');
        for (int i = 0; i < 58; i++) {
            tree.insert(1 + i, 1);
        }
        Check.same("1 letter", Check.label(tree, 2), "iA");
        Check.same("26 letters", Check.label(tree, 27), "iZ");
        Check.same("27 letters", Check.label(tree, 28), "iAA");
        Check.same("52 letters", Check.label(tree, 53), "iAZ");
        Check.same("53 letters", Check.label(tree, 54), "iBA");
        Check.same("58 letters", Check.label(tree, 59), "iBF");
    }

    private static void chains() {
        NumberingTree tree = Check.tree(1, 1, 2, 3, 4, 4, 0, 3);
        tree.setFormat(2, 'R');
        tree.setFormat(3, 'l');
        tree.setFormat(4, 'r');
        Check.same("labels", Check.labels(tree), "1 2 2.I 2.I.a 2.I.a.i 2.I.a.ii - 2.I.b");
        Check.same("labelLength", tree.labelLength(5), 8);
        NumberingTree lettered = Check.frozenTree(1, 2, 2, 1);
        lettered.insert(2, 2);
        lettered.insert(3, 3);
        lettered.insert(5, 1);
        lettered.insert(6, 2);
        Check.same("labels with letters", Check.labels(lettered), "1 1.1 1.1A 1.1A.1 1.2 1A 1A.1 2");
    }

    private static void signs() {
        NumberingTree tree = Check.tree(1, 2);
        Check.same("labelAt(1, 0)", tree.labelAt(1, 0), '1');
        Check.same("labelAt(1, 1)", tree.labelAt(1, 1), '.');
        Check.same("labelAt(1, 2)", tree.labelAt(1, 2), '1');
        Check.same("labelLength(1)", tree.labelLength(1), 3);
        Check.same("labelLength(0)", tree.labelLength(0), 1);
        Check.refused("labelAt(1, 3)", INDEX, LabelTest::small, t -> t.labelAt(1, 3));
        Check.refused("labelAt(0, 1)", INDEX, LabelTest::small, t -> t.labelAt(0, 1));
        Check.refused("labelAt(1, -1)", INDEX, LabelTest::small, t -> t.labelAt(1, -1));
        Check.asked("labelAt", LabelTest::small, t -> t.labelAt(2, 2), '2');
        Check.asked("labelLength", LabelTest::small, t -> t.labelLength(2), 3);
    }

    private static void wrongInputs() {
        Check.refused("labelLength(5)", ABSENT, LabelTest::small, t -> t.labelLength(5));
        Check.refused("labelLength(-1)", ABSENT, LabelTest::small, t -> t.labelLength(-1));
        Check.refused("labelLength of a removed one", ABSENT, () -> without(3), t -> t.labelLength(3));
        Check.refused("labelLength of a plain one", STATE, LabelTest::small, t -> t.labelLength(3));
        Check.refused("labelAt(5, 9)", ABSENT, LabelTest::small, t -> t.labelAt(5, 9));
        Check.refused("labelAt of a removed one", ABSENT, () -> without(3), t -> t.labelAt(3, 9));
        Check.refused("labelAt of a plain one", STATE, LabelTest::small, t -> t.labelAt(3, 9));
    }

    private static void isUnique() {
        Check.asked("isUnique", LabelTest::small, NumberingTree::isUnique, true);
        Check.same("same labels of other levels", Check.tree(3, 2, 1).isUnique(), true);
        Check.same("plain ones", Check.tree(0, 0, 1).isUnique(), true);
        Check.same("the same label by other parents", Check.tree(2, 4, 1, 4).isUnique(), false);
        NumberingTree goingOn = Check.tree(2, 4, 1, 4);
        goingOn.setGoingOn(4, true);
        Check.same("going on instead", goingOn.isUnique(), true);
        NumberingTree formats = Check.tree(2, 4, 1, 4);
        formats.setFormat(2, 'l');
        Check.same("other formats of the parents", formats.isUnique(), true);
        NumberingTree later = Check.tree(2, 4, 1, 3, 4, 4, 1);
        later.startAt(6, 5);
        Check.same("other lengths", later.isUnique(), true);
        Check.same("bC and ab, whose fingerprints are the same", alikeFingerprints().isUnique(), true);
        Check.same("the letter I and the Roman II", letterAndNumeral('R').isUnique(), false);
        Check.same("the letter I and the Roman ii", letterAndNumeral('r').isUnique(), true);
    }

    private static NumberingTree alikeFingerprints() {
        NumberingTree tree = Check.tree(1, 1);
        tree.setFormat(1, 'l');
        tree.startAt(0, 2);
        tree.startAt(1, 28);
        tree.freeze();
        for (int number = 3; number < 28; number++) {
            tree.skip(1, number);
        }
        for (int i = 0; i < 3; i++) {
            tree.insert(1, 1);
        }
        Check.same("labels", Check.labels(tree), "b bA bB bC ab");
        return tree;
    }

    /** 1 with nine letters, and 2. */
    private static NumberingTree letterAndNumeral(char format) {
        NumberingTree tree = Check.frozenTree(1, 1);
        tree.setFormat(1, format);
        for (int i = 0; i < 9; i++) {
            tree.insert(1, 1);
        }
        return tree;
    }
}
