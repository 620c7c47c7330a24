import java.util.NoSuchElementException;

/** The numbering of a legal or technical text. The document's promises say what each call answers. */
public final class NumberingTree {
    private static final int MOST_PARAGRAPHS = 60;
    private static final int MOST_REFERENCES = 30;
    private static final int PLAIN = 0;
    private static final int DEEPEST = 4;
    private static final int GREATEST_START = 999;
    private static final int MOST_RESERVED = 20;
    private static final int GREATEST_SKIPPED = 99;
    private static final int NONE = -1;

    private final Standing standing;
    private final Levels levels;
    private final Numbers numbers;
    private final Labels labels;
    private final Links links;
    private int inserted;

    public NumberingTree() {
        standing = new Standing();
        levels = new Levels();
        numbers = new Numbers(standing, levels);
        labels = new Labels(standing, levels, numbers);
        links = new Links();
    }

    public int insert(int place, int level)
            throws IllegalArgumentException, IllegalStateException, UnsupportedOperationException {
        if (place < 0 || place > standing.amount() || level < PLAIN || level > DEEPEST) {
            throw new IllegalArgumentException();
        }
        if (inserted >= MOST_PARAGRAPHS) {
            throw new IllegalStateException();
        }
        int name = inserted;
        standing.put(name, place, level);
        if (tearsFrozen()) {
            standing.take(name);
            throw new UnsupportedOperationException();
        }
        inserted++;
        acceptChange();
        return name;
    }

    public int move(int paragraph, int place)
            throws NoSuchElementException, IllegalArgumentException, UnsupportedOperationException {
        requireStanding(paragraph);
        if (place < 0 || place >= standing.amount()) {
            throw new IllegalArgumentException();
        }
        if (numbers.isFixed(paragraph)) {
            throw new UnsupportedOperationException();
        }
        int before = standing.place(paragraph);
        standing.shift(paragraph, place);
        if (tearsFrozen()) {
            standing.shift(paragraph, before);
            throw new UnsupportedOperationException();
        }
        acceptChange();
        return before;
    }

    public int setLevel(int paragraph, int level)
            throws NoSuchElementException, IllegalArgumentException, UnsupportedOperationException {
        requireStanding(paragraph);
        if (level < PLAIN || level > DEEPEST) {
            throw new IllegalArgumentException();
        }
        if (numbers.isFixed(paragraph)) {
            throw new UnsupportedOperationException();
        }
        int before = standing.level(paragraph);
        standing.putLevel(paragraph, level);
        if (tearsFrozen()) {
            standing.putLevel(paragraph, before);
            throw new UnsupportedOperationException();
        }
        acceptChange();
        return before;
    }

    public int remove(int paragraph) throws NoSuchElementException, UnsupportedOperationException {
        requireStanding(paragraph);
        int place = standing.place(paragraph);
        standing.take(paragraph);
        if (tearsFrozen()) {
            standing.put(paragraph, place, standing.level(paragraph));
            throw new UnsupportedOperationException();
        }
        acceptChange();
        return standing.amount();
    }

    public int startAt(int paragraph, int number) throws NoSuchElementException, IllegalArgumentException {
        requireStanding(paragraph);
        if (number < 0 || number > GREATEST_START) {
            throw new IllegalArgumentException();
        }
        int before = numbers.start(paragraph);
        numbers.putStart(paragraph, number);
        numbers.renumber();
        return before;
    }

    public int reserve(int paragraph, int count) throws NoSuchElementException, IllegalArgumentException {
        requireStanding(paragraph);
        if (count < 0 || count > MOST_RESERVED) {
            throw new IllegalArgumentException();
        }
        int before = numbers.reserved(paragraph);
        numbers.putReserved(paragraph, count);
        numbers.renumber();
        return before;
    }

    public int skip(int level, int number) throws IllegalArgumentException, IllegalStateException {
        requireSkippable(level, number);
        if (levels.isSkipped(level, number)) {
            throw new IllegalStateException();
        }
        levels.putSkipped(level, number, true);
        numbers.renumber();
        return levels.skippedAmount(level);
    }

    public int unskip(int level, int number) throws IllegalArgumentException, IllegalStateException {
        requireSkippable(level, number);
        if (!levels.isSkipped(level, number)) {
            throw new IllegalStateException();
        }
        levels.putSkipped(level, number, false);
        numbers.renumber();
        return levels.skippedAmount(level);
    }

    public char setFormat(int level, char format) throws IllegalArgumentException {
        requireNumberedLevel(level);
        if (format != 'd' && format != 'l' && format != 'r' && format != 'R') {
            throw new IllegalArgumentException();
        }
        char before = levels.format(level);
        levels.putFormat(level, format);
        return before;
    }

    public boolean setGoingOn(int level, boolean goesOn)
            throws IllegalArgumentException, UnsupportedOperationException {
        requireNumberedLevel(level);
        if (hasFrozen(level)) {
            throw new UnsupportedOperationException();
        }
        boolean before = levels.goesOn(level);
        levels.putGoingOn(level, goesOn);
        numbers.renumber();
        return before;
    }

    public int freeze() {
        return numbers.fix();
    }

    public int refer(int paragraph, int target)
            throws NoSuchElementException, IllegalArgumentException, IllegalStateException {
        requireStanding(paragraph);
        requireStanding(target);
        if (paragraph == target || standing.isPlain(target)) {
            throw new IllegalArgumentException();
        }
        if (links.amount() >= MOST_REFERENCES) {
            throw new IllegalStateException();
        }
        return links.append(paragraph, target);
    }

    public int size() {
        return standing.amount();
    }

    public int paragraphAt(int place) throws IndexOutOfBoundsException {
        if (place < 0 || place >= standing.amount()) {
            throw new IndexOutOfBoundsException();
        }
        return standing.nameAt(place);
    }

    public int placeOf(int paragraph) throws NoSuchElementException {
        requireStanding(paragraph);
        return standing.place(paragraph);
    }

    public int levelOf(int paragraph) throws NoSuchElementException {
        requireStanding(paragraph);
        return standing.level(paragraph);
    }

    public int parentOf(int paragraph) throws NoSuchElementException, IllegalStateException {
        requireNumbered(paragraph);
        return standing.parent(paragraph);
    }

    public int below(int paragraph) throws NoSuchElementException {
        requireStanding(paragraph);
        int found = 0;
        for (int place = 0; place < standing.amount(); place++) {
            if (standing.isAbove(paragraph, standing.nameAt(place))) {
                found++;
            }
        }
        return found;
    }

    public boolean isFrozen(int paragraph) throws NoSuchElementException {
        requireStanding(paragraph);
        return numbers.isFixed(paragraph);
    }

    public int numberOf(int paragraph) throws NoSuchElementException, IllegalStateException {
        requireNumbered(paragraph);
        return numbers.number(paragraph);
    }

    public int lettersOf(int paragraph) throws NoSuchElementException, IllegalStateException {
        requireNumbered(paragraph);
        return numbers.letters(paragraph);
    }

    public int numberByWalk(int paragraph) throws NoSuchElementException, IllegalStateException {
        requireNumbered(paragraph);
        numbers.walkTo(paragraph);
        return numbers.walkedNumber();
    }

    public int lettersByWalk(int paragraph) throws NoSuchElementException, IllegalStateException {
        requireNumbered(paragraph);
        numbers.walkTo(paragraph);
        return numbers.walkedLetters();
    }

    public int ahead(int paragraph) throws NoSuchElementException, IllegalStateException {
        requireNumbered(paragraph);
        return numbers.nameAhead(paragraph);
    }

    public int labelLength(int paragraph) throws NoSuchElementException, IllegalStateException {
        requireNumbered(paragraph);
        labels.writeLabel(paragraph);
        return labels.length();
    }

    public char labelAt(int paragraph, int index)
            throws NoSuchElementException, IllegalStateException, IndexOutOfBoundsException {
        requireNumbered(paragraph);
        labels.writeLabel(paragraph);
        return writtenSign(index);
    }

    public int find(int level, int number) throws IllegalArgumentException, NoSuchElementException {
        requireNumberedLevel(level);
        for (int place = 0; place < standing.amount(); place++) {
            int name = standing.nameAt(place);
            if (standing.level(name) == level && numbers.number(name) == number && numbers.letters(name) == 0) {
                return name;
            }
        }
        throw new NoSuchElementException();
    }

    public int references() {
        return links.amount();
    }

    public int targetOf(int reference) throws NoSuchElementException {
        requireReference(reference);
        return links.target(reference);
    }

    public boolean isBroken(int reference) throws NoSuchElementException {
        requireReference(reference);
        return lacksEnd(reference);
    }

    public int referenceLength(int reference) throws NoSuchElementException, IllegalStateException {
        requireWhole(reference);
        labels.writeReference(links.source(reference), links.target(reference));
        return labels.length();
    }

    public char referenceAt(int reference, int index)
            throws NoSuchElementException, IllegalStateException, IndexOutOfBoundsException {
        requireWhole(reference);
        labels.writeReference(links.source(reference), links.target(reference));
        return writtenSign(index);
    }

    public int broken() {
        int found = 0;
        for (int reference = 0; reference < links.amount(); reference++) {
            if (lacksEnd(reference)) {
                found++;
            }
        }
        return found;
    }

    public int used() {
        return numbers.usedAmount();
    }

    public int count(char kind) throws IllegalArgumentException {
        if (kind != 'p' && kind != 'f' && kind != 'o') {
            throw new IllegalArgumentException();
        }
        return kindAmount(kind);
    }

    public long sum() {
        long total = 0;
        for (int level = 1; level <= DEEPEST; level++) {
            total += levelTotal(level);
        }
        return total;
    }

    public boolean isUnique() {
        for (int place = 0; place < standing.amount(); place++) {
            if (labels.hasTwinAhead(place)) {
                return false;
            }
        }
        return true;
    }

    public float frozenShare() throws ArithmeticException {
        requireAnyNumbered();
        return exactShare();
    }

    public int shareBits() throws ArithmeticException {
        requireAnyNumbered();
        return bitsOfShare(exactShare());
    }

    public double meanNumber(int level) throws IllegalArgumentException, ArithmeticException {
        requireNumberedLevel(level);
        int amount = levelAmount(level);
        if (amount == 0) {
            throw new ArithmeticException();
        }
        return (double) levelTotal(level) / (double) amount;
    }

    private void requireStanding(int paragraph) {
        if (!standing.holds(paragraph)) {
            throw new NoSuchElementException();
        }
    }

    private void requireNumbered(int paragraph) {
        requireStanding(paragraph);
        if (standing.isPlain(paragraph)) {
            throw new IllegalStateException();
        }
    }

    private void requireNumberedLevel(int level) {
        if (level <= PLAIN || level > DEEPEST) {
            throw new IllegalArgumentException();
        }
    }

    private void requireSkippable(int level, int number) {
        requireNumberedLevel(level);
        if (number < 1 || number > GREATEST_SKIPPED) {
            throw new IllegalArgumentException();
        }
    }

    private void requireReference(int reference) {
        if (reference < 0 || reference >= links.amount()) {
            throw new NoSuchElementException();
        }
    }

    private void requireWhole(int reference) {
        requireReference(reference);
        if (lacksEnd(reference)) {
            throw new IllegalStateException();
        }
    }

    private void requireAnyNumbered() {
        if (numberedAmount() == 0) {
            throw new ArithmeticException();
        }
    }

    /** Compares with the parents of before the change, which stay kept until the change is accepted. */
    private boolean tearsFrozen() {
        for (int place = 0; place < standing.amount(); place++) {
            int name = standing.nameAt(place);
            if (numbers.isFixed(name) && standing.parentFrom(place) != standing.parent(name)) {
                return true;
            }
        }
        return false;
    }

    private void acceptChange() {
        standing.findParents();
        numbers.renumber();
    }

    private boolean hasFrozen(int level) {
        for (int place = 0; place < standing.amount(); place++) {
            int name = standing.nameAt(place);
            if (standing.level(name) == level && numbers.isFixed(name)) {
                return true;
            }
        }
        return false;
    }

    private boolean lacksEnd(int reference) {
        return !standing.holds(links.source(reference)) || !standing.holds(links.target(reference));
    }

    private char writtenSign(int index) {
        if (index < 0 || index >= labels.length()) {
            throw new IndexOutOfBoundsException();
        }
        return labels.signAt(index);
    }

    private char kindOf(int name) {
        if (standing.isPlain(name)) {
            return 'p';
        }
        return numbers.isFixed(name) ? 'f' : 'o';
    }

    private int kindAmount(char kind) {
        int found = 0;
        for (int place = 0; place < standing.amount(); place++) {
            if (kindOf(standing.nameAt(place)) == kind) {
                found++;
            }
        }
        return found;
    }

    private int numberedAmount() {
        return standing.amount() - kindAmount('p');
    }

    private int levelAmount(int level) {
        int found = 0;
        for (int place = 0; place < standing.amount(); place++) {
            if (standing.level(standing.nameAt(place)) == level) {
                found++;
            }
        }
        return found;
    }

    private long levelTotal(int level) {
        long total = 0;
        for (int place = 0; place < standing.amount(); place++) {
            int name = standing.nameAt(place);
            if (standing.level(name) == level) {
                total += numbers.number(name);
            }
        }
        return total;
    }

    private float exactShare() {
        int all = numberedAmount();
        return all == 0 ? 0.0f : (float) kindAmount('f') / (float) all;
    }

    /** The library of rule 4 has no floatToIntBits; doubling a float loses nothing, so its parts can be read off. */
    private static int bitsOfShare(float share) {
        if (share <= 0.0f) {
            return 0;
        }
        float scaled = share;
        int exponent = 127;
        for (int steps = 0; steps < 126 && scaled < 1.0f; steps++) {
            scaled = scaled * 2.0f;
            exponent--;
        }
        int fraction = (int) ((scaled - 1.0f) * 8388608.0f);
        return exponent << 23 | fraction;
    }

    /** A row of numbers, which is 0 wherever it has no cell: so no index fails, and NONE reads as 0. */
    private static final class Row {
        private final int[] cells;

        Row(int length) {
            cells = new int[length > 0 ? length : 0];
        }

        int at(int index) {
            return index >= 0 && index < cells.length ? cells[index] : 0;
        }

        void put(int index, int value) {
            if (index >= 0 && index < cells.length) {
                cells[index] = value;
            }
        }
    }

    /** Which paragraphs stand where, with which levels and parents. */
    private static final class Standing {
        private final Row order = new Row(MOST_PARAGRAPHS);
        /** Places are kept plus 1, so that 0 says that a paragraph does not stand. */
        private final Row placesPlusOne = new Row(MOST_PARAGRAPHS);
        private final Row levelRow = new Row(MOST_PARAGRAPHS);
        private final Row parentRow = new Row(MOST_PARAGRAPHS);
        private int amount;

        int amount() {
            return amount;
        }

        boolean holds(int name) {
            return placesPlusOne.at(name) > 0;
        }

        int nameAt(int place) {
            return order.at(place);
        }

        int place(int name) {
            return placesPlusOne.at(name) - 1;
        }

        int level(int name) {
            return levelRow.at(name);
        }

        boolean isPlain(int name) {
            return levelRow.at(name) == PLAIN;
        }

        int parent(int name) {
            return parentRow.at(name);
        }

        void put(int name, int place, int level) {
            for (int i = amount; i > place; i--) {
                seat(order.at(i - 1), i);
            }
            seat(name, place);
            levelRow.put(name, level);
            amount++;
        }

        void take(int name) {
            amount--;
            for (int i = place(name); i < amount; i++) {
                seat(order.at(i + 1), i);
            }
            placesPlusOne.put(name, 0);
        }

        void shift(int name, int place) {
            take(name);
            put(name, place, level(name));
        }

        void putLevel(int name, int level) {
            levelRow.put(name, level);
        }

        private void seat(int name, int place) {
            order.put(place, name);
            placesPlusOne.put(name, place + 1);
        }

        void findParents() {
            for (int place = 0; place < amount; place++) {
                parentRow.put(order.at(place), parentFrom(place));
            }
        }

        int parentFrom(int place) {
            int level = level(order.at(place));
            for (int i = place - 1; i >= 0; i--) {
                int name = order.at(i);
                if (level(name) != PLAIN && level(name) < level) {
                    return name;
                }
            }
            return NONE;
        }

        int ancestor(int name, int steps) {
            int reached = name;
            for (int i = 0; i < steps && reached != NONE; i++) {
                reached = parent(reached);
            }
            return reached;
        }

        boolean isAbove(int upper, int lower) {
            int reached = lower;
            for (int steps = 1; steps < DEEPEST && reached != NONE; steps++) {
                reached = parent(reached);
                if (reached == upper) {
                    return true;
                }
            }
            return false;
        }
    }

    /** What is set for each level. */
    private static final class Levels {
        private final Row formats = new Row(DEEPEST + 1);
        private final Row goingOn = new Row(DEEPEST + 1);
        private final Row skipped = new Row((DEEPEST + 1) * (GREATEST_SKIPPED + 1));
        private final Row skippedAmounts = new Row(DEEPEST + 1);

        Levels() {
            for (int level = 1; level <= DEEPEST; level++) {
                formats.put(level, 'd');
            }
        }

        char format(int level) {
            return (char) formats.at(level);
        }

        void putFormat(int level, char format) {
            formats.put(level, format);
        }

        boolean goesOn(int level) {
            return goingOn.at(level) != 0;
        }

        void putGoingOn(int level, boolean goesOn) {
            goingOn.put(level, goesOn ? 1 : 0);
        }

        boolean isSkipped(int level, int number) {
            return number <= GREATEST_SKIPPED && skipped.at(cell(level, number)) != 0;
        }

        void putSkipped(int level, int number, boolean isSo) {
            skipped.put(cell(level, number), isSo ? 1 : 0);
            skippedAmounts.put(level, skippedAmounts.at(level) + (isSo ? 1 : -1));
        }

        int skippedAmount(int level) {
            return skippedAmounts.at(level);
        }

        private static int cell(int level, int number) {
            return level * (GREATEST_SKIPPED + 1) + number;
        }
    }

    /** The numbers of frozen paragraphs by group; they outlive the paragraphs. */
    private static final class Used {
        private final Row usedGroups = new Row(MOST_PARAGRAPHS);
        private final Row usedNumbers = new Row(MOST_PARAGRAPHS);
        private int amount;

        int amount() {
            return amount;
        }

        boolean contains(int group, int number) {
            for (int i = 0; i < amount; i++) {
                if (usedNumbers.at(i) == number && usedGroups.at(i) == group) {
                    return true;
                }
            }
            return false;
        }

        void include(int group, int number) {
            if (amount < MOST_PARAGRAPHS && !contains(group, number)) {
                usedGroups.put(amount, group);
                usedNumbers.put(amount, number);
                amount++;
            }
        }
    }

    /** The numbers and letters of paragraphs, kept and found by a walk. */
    private static final class Numbers {
        /** A level has one group that goes on, one without a parent, and one below each paragraph: 0, 1 and above. */
        private static final int GROUPS_OF_LEVEL = MOST_PARAGRAPHS + 2;
        /** No number is taken but the skipped and the used ones, and each paragraph uses one at most. */
        private static final int MOST_TAKEN = GREATEST_SKIPPED + MOST_PARAGRAPHS;
        /** Stands for the number of the first frozen paragraph behind where there is none: they all are above 0. */
        private static final int NO_LIMIT = 0;

        private final Standing standing;
        private final Levels levels;
        private final Used used = new Used();
        private final Row groups = new Row(MOST_PARAGRAPHS);
        private final Row numberRow = new Row(MOST_PARAGRAPHS);
        private final Row letterRow = new Row(MOST_PARAGRAPHS);
        private final Row limits = new Row(MOST_PARAGRAPHS);
        private final Row fixed = new Row(MOST_PARAGRAPHS);
        private final Row starts = new Row(MOST_PARAGRAPHS);
        private final Row reservedRow = new Row(MOST_PARAGRAPHS);
        private final Row walked = new Row(MOST_PARAGRAPHS);
        private int walkedNumber;
        private int walkedLetters;

        Numbers(Standing standing, Levels levels) {
            this.standing = standing;
            this.levels = levels;
        }

        int number(int name) {
            return numberRow.at(name);
        }

        int letters(int name) {
            return letterRow.at(name);
        }

        boolean isFixed(int name) {
            return fixed.at(name) != 0;
        }

        int start(int name) {
            return starts.at(name);
        }

        void putStart(int name, int start) {
            starts.put(name, start);
        }

        int reserved(int name) {
            return reservedRow.at(name);
        }

        void putReserved(int name, int amount) {
            reservedRow.put(name, amount);
        }

        int usedAmount() {
            return used.amount();
        }

        int walkedNumber() {
            return walkedNumber;
        }

        int walkedLetters() {
            return walkedLetters;
        }

        /** Freezes all that may be; a parent stands ahead of its children, so it is decided before them. */
        int fix() {
            int found = 0;
            for (int place = 0; place < standing.amount(); place++) {
                int name = standing.nameAt(place);
                if (mayBeFixed(name)) {
                    fixed.put(name, 1);
                    used.include(groups.at(name), number(name));
                    found++;
                }
            }
            renumber();
            return found;
        }

        private boolean mayBeFixed(int name) {
            if (standing.isPlain(name) || isFixed(name) || letters(name) != 0) {
                return false;
            }
            int parent = standing.parent(name);
            return parent == NONE || isFixed(parent);
        }

        void renumber() {
            findGroups();
            for (int place = 0; place < standing.amount(); place++) {
                int name = standing.nameAt(place);
                if (!standing.isPlain(name) && !isFixed(name)) {
                    settle(name);
                }
            }
        }

        private void findGroups() {
            for (int place = 0; place < standing.amount(); place++) {
                int name = standing.nameAt(place);
                int level = standing.level(name);
                int within = levels.goesOn(level) ? 0 : standing.parent(name) + 2;
                groups.put(name, level * GROUPS_OF_LEVEL + within);
            }
        }

        private void settle(int name) {
            int ahead = nameAhead(name);
            boolean sharesLimit = ahead != NONE && !isFixed(ahead);
            int limit = sharesLimit ? limits.at(ahead) : limitBehind(name);
            int number = numberBehind(ahead, number(ahead), name, limit);
            limits.put(name, limit);
            letterRow.put(name, number == number(ahead) ? letters(ahead) + 1 : 0);
            numberRow.put(name, number);
        }

        /** Goes back to a number that hangs on no other, a frozen one or the group's first, and counts from there. */
        void walkTo(int name) {
            int steps = 0;
            int ahead = name;
            while (steps < MOST_PARAGRAPHS && ahead != NONE && !isFixed(ahead)) {
                walked.put(steps, ahead);
                steps++;
                ahead = nameAhead(ahead);
            }
            int limit = limitBehind(name);
            walkedNumber = number(ahead);
            walkedLetters = 0;
            for (int i = steps - 1; i >= 0; i--) {
                int next = walked.at(i);
                int number = numberBehind(ahead, walkedNumber, next, limit);
                walkedLetters = number == walkedNumber ? walkedLetters + 1 : 0;
                walkedNumber = number;
                ahead = next;
            }
        }

        int nameAhead(int name) {
            for (int place = standing.place(name) - 1; place >= 0; place--) {
                int other = standing.nameAt(place);
                if (groups.at(other) == groups.at(name)) {
                    return other;
                }
            }
            return NONE;
        }

        private int limitBehind(int name) {
            for (int place = standing.place(name) + 1; place < standing.amount(); place++) {
                int other = standing.nameAt(place);
                if (isFixed(other) && groups.at(other) == groups.at(name)) {
                    return number(other);
                }
            }
            return NO_LIMIT;
        }

        /** Answers the number of the one ahead again, and only then that number, if the paragraph gets a letter. */
        private int numberBehind(int ahead, int aheadNumber, int name, int limit) {
            int number = aheadNumber + 1;
            if (limit == NO_LIMIT) {
                number = Math.max(number + reserved(ahead), start(name));
            }
            int level = standing.level(name);
            int group = groups.at(name);
            for (int i = 0; i < MOST_TAKEN; i++) {
                if (!levels.isSkipped(level, number) && !used.contains(group, number)) {
                    break;
                }
                number++;
            }
            return limit != NO_LIMIT && number >= limit ? aheadNumber : number;
        }
    }

    /** A text that is written anew again and again. */
    private static final class Text {
        /**
         * A number stays below 100,000: each of at most 60 freezes can raise the greatest one by 60 steps of 21 and
         * what is taken. So one of four parts has at most 99 thousands, 12 other Roman signs and 2 letters.
         */
        private static final int ROOM = 512;
        private static final int MOST_SIGNS = 10;

        private final char[] signs = new char[ROOM];
        private int length;

        int length() {
            return length;
        }

        void clear() {
            length = 0;
        }

        char signAt(int index) {
            return index >= 0 && index < signs.length ? signs[index] : ' ';
        }

        void append(char sign) {
            if (length >= 0 && length < signs.length) {
                signs[length] = sign;
                length++;
            }
        }

        /** Only 0 has no letters and no Roman numeral of its own; digits show it the same way. */
        void appendNumber(int number, char format) {
            if (number <= 0) {
                append('0');
                return;
            }
            switch (format) {
                case 'l':
                    appendLetters(number, 'a');
                    break;
                case 'r':
                    appendRoman(number, 0);
                    break;
                case 'R':
                    appendRoman(number, 'I' - 'i');
                    break;
                default:
                    appendDigits(number);
            }
        }

        void appendLetters(int number, char first) {
            int start = length;
            int left = number;
            for (int signsPut = 0; signsPut < MOST_SIGNS && left > 0; signsPut++) {
                append((char) (first + (left - 1) % 26));
                left = (left - 1) / 26;
            }
            turnRound(start);
        }

        private void appendDigits(int number) {
            int start = length;
            int left = number;
            for (int signsPut = 0; signsPut < MOST_SIGNS && left > 0; signsPut++) {
                append((char) ('0' + left % 10));
                left = left / 10;
            }
            turnRound(start);
        }

        /** Digits and letters are found from the last to the first. */
        private void turnRound(int start) {
            int end = length - 1;
            for (int i = start; i < end; i++) {
                char sign = signAt(i);
                putSign(i, signAt(end));
                putSign(end, sign);
                end--;
            }
        }

        private void putSign(int index, char sign) {
            if (index >= 0 && index < signs.length) {
                signs[index] = sign;
            }
        }

        /** The document tells no greatest number, so thousands are repeated beyond 3 as well. */
        private void appendRoman(int number, int shift) {
            for (int i = 0; i < number / 1000; i++) {
                append((char) ('m' + shift));
            }
            appendRomanDigit(number / 100 % 10, 'c' + shift, 'd' + shift, 'm' + shift);
            appendRomanDigit(number / 10 % 10, 'x' + shift, 'l' + shift, 'c' + shift);
            appendRomanDigit(number % 10, 'i' + shift, 'v' + shift, 'x' + shift);
        }

        private void appendRomanDigit(int digit, int one, int five, int ten) {
            if (digit == 9 || digit == 4) {
                append((char) one);
                append((char) (digit == 9 ? ten : five));
                return;
            }
            if (digit >= 5) {
                append((char) five);
            }
            for (int i = 0; i < digit % 5; i++) {
                append((char) one);
            }
        }

        boolean isSameAs(Text other) {
            if (other == null || other.length() != length) {
                return false;
            }
            for (int i = 0; i < length; i++) {
                if (signAt(i) != other.signAt(i)) {
                    return false;
                }
            }
            return true;
        }

        int fingerprint() {
            int print = 0;
            for (int i = 0; i < length; i++) {
                print = print * 31 + signAt(i);
            }
            return print;
        }
    }

    /** What paragraphs and references show. */
    private static final class Labels {
        private final Standing standing;
        private final Levels levels;
        private final Numbers numbers;
        private final Text text = new Text();
        private final Text otherText = new Text();
        private final Row fingerprints = new Row(MOST_PARAGRAPHS);

        Labels(Standing standing, Levels levels, Numbers numbers) {
            this.standing = standing;
            this.levels = levels;
            this.numbers = numbers;
        }

        int length() {
            return text.length();
        }

        char signAt(int index) {
            return text.signAt(index);
        }

        void writeLabel(int name) {
            write(text, name, NONE);
        }

        void writeReference(int source, int target) {
            if (standing.isPlain(target)) {
                text.clear();
                return;
            }
            write(text, target, source);
        }

        /** Expects to be asked for all places in their order: the fingerprints of those ahead spare most comparisons. */
        boolean hasTwinAhead(int place) {
            int name = standing.nameAt(place);
            if (standing.isPlain(name)) {
                return false;
            }
            write(text, name, NONE);
            fingerprints.put(name, text.fingerprint());
            for (int i = 0; i < place; i++) {
                int other = standing.nameAt(i);
                if (standing.level(other) == standing.level(name)
                        && fingerprints.at(other) == fingerprints.at(name)) {
                    write(otherText, other, NONE);
                    if (text.isSameAs(otherText)) {
                        return true;
                    }
                }
            }
            return false;
        }

        private void write(Text into, int name, int source) {
            if (into == null) {
                return;
            }
            into.clear();
            for (int steps = DEEPEST - 1; steps >= 0; steps--) {
                int part = standing.ancestor(name, steps);
                boolean isShown = steps == 0 || part != NONE && !isShared(part, source);
                if (isShown) {
                    if (into.length() > 0) {
                        into.append('.');
                    }
                    into.appendNumber(numbers.number(part), levels.format(standing.level(part)));
                    into.appendLetters(numbers.letters(part), 'A');
                }
            }
        }

        private boolean isShared(int part, int source) {
            return part == source || standing.isAbove(part, source);
        }
    }

    /** References as they were added; what they show is found from the paragraphs each time. */
    private static final class Links {
        private final Row sources = new Row(MOST_REFERENCES);
        private final Row targets = new Row(MOST_REFERENCES);
        private int amount;

        int amount() {
            return amount;
        }

        int source(int reference) {
            return sources.at(reference);
        }

        int target(int reference) {
            return targets.at(reference);
        }

        int append(int source, int target) {
            int reference = amount;
            sources.put(reference, source);
            targets.put(reference, target);
            amount++;
            return reference;
        }
    }
}
