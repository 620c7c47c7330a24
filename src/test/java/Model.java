import java.util.ArrayList;
import java.util.HashSet;
import java.util.List;
import java.util.NoSuchElementException;
import java.util.Set;

/** The document once more, found anew from its words at each call and without any care for speed. */
public final class Model {
    private static final class Paragraph {
        final int name;
        int level;
        int start;
        int reserved;
        int frozenNumber;

        Paragraph(int name, int level) {
            this.name = name;
            this.level = level;
        }
    }

    private record Shown(int number, int letters) {
    }

    private final List<Paragraph> all = new ArrayList<>();
    private List<Paragraph> text = new ArrayList<>();
    private final List<Paragraph[]> references = new ArrayList<>();
    private final Set<String> used = new HashSet<>();
    private final List<Set<Integer>> skipped = List.of(new HashSet<>(), new HashSet<>(), new HashSet<>(),
            new HashSet<>(), new HashSet<>());
    private final char[] formats = {'d', 'd', 'd', 'd', 'd'};
    private final boolean[] goesOn = new boolean[5];

    public int insert(int place, int level) {
        demand(place >= 0 && place <= text.size() && level >= 0 && level <= 4, new IllegalArgumentException());
        demand(all.size() < 60, new IllegalStateException());
        Paragraph added = new Paragraph(all.size(), level);
        List<Paragraph> after = new ArrayList<>(text);
        after.add(place, added);
        demand(keepsParents(after), new UnsupportedOperationException());
        text = after;
        all.add(added);
        return added.name;
    }

    public int move(int paragraph, int place) {
        Paragraph moved = standing(paragraph);
        demand(place >= 0 && place < text.size(), new IllegalArgumentException());
        List<Paragraph> after = new ArrayList<>(text);
        after.remove(moved);
        after.add(place, moved);
        demand(moved.frozenNumber == 0 && keepsParents(after), new UnsupportedOperationException());
        int before = text.indexOf(moved);
        text = after;
        return before;
    }

    public int setLevel(int paragraph, int level) {
        Paragraph changed = standing(paragraph);
        demand(level >= 0 && level <= 4, new IllegalArgumentException());
        demand(changed.frozenNumber == 0, new UnsupportedOperationException());
        Paragraph other = new Paragraph(-7, level);
        List<Paragraph> after = new ArrayList<>(text);
        after.set(after.indexOf(changed), other);
        for (Paragraph frozen : text) {
            if (frozen.frozenNumber > 0) {
                Paragraph then = parent(after, frozen);
                demand((then == other ? changed : then) == parent(text, frozen), new UnsupportedOperationException());
            }
        }
        int before = changed.level;
        changed.level = level;
        return before;
    }

    public int remove(int paragraph) {
        Paragraph removed = standing(paragraph);
        List<Paragraph> after = new ArrayList<>(text);
        after.remove(removed);
        demand(keepsParents(after), new UnsupportedOperationException());
        text = after;
        return text.size();
    }

    public int startAt(int paragraph, int number) {
        Paragraph told = standing(paragraph);
        demand(number >= 0 && number <= 999, new IllegalArgumentException());
        int before = told.start;
        told.start = number;
        return before;
    }

    public int reserve(int paragraph, int count) {
        Paragraph told = standing(paragraph);
        demand(count >= 0 && count <= 20, new IllegalArgumentException());
        int before = told.reserved;
        told.reserved = count;
        return before;
    }

    public int skip(int level, int number) {
        demand(isLevel(level) && number >= 1 && number <= 99, new IllegalArgumentException());
        demand(skipped.get(level).add(number), new IllegalStateException());
        return skipped.get(level).size();
    }

    public int unskip(int level, int number) {
        demand(isLevel(level) && number >= 1 && number <= 99, new IllegalArgumentException());
        demand(skipped.get(level).remove(number), new IllegalStateException());
        return skipped.get(level).size();
    }

    public char setFormat(int level, char format) {
        demand(isLevel(level) && "dlrR".indexOf(format) >= 0, new IllegalArgumentException());
        char before = formats[level];
        formats[level] = format;
        return before;
    }

    public boolean setGoingOn(int level, boolean goingOn) {
        demand(isLevel(level), new IllegalArgumentException());
        demand(text.stream().noneMatch(p -> p.level == level && p.frozenNumber > 0),
                new UnsupportedOperationException());
        boolean before = goesOn[level];
        goesOn[level] = goingOn;
        return before;
    }

    public int freeze() {
        List<Paragraph> fit = new ArrayList<>();
        List<Integer> numbers = new ArrayList<>();
        for (Paragraph one : text) {
            Paragraph parent = parent(text, one);
            boolean below = parent == null || parent.frozenNumber > 0 || fit.contains(parent);
            if (one.level > 0 && one.frozenNumber == 0 && shown(one).letters == 0 && below) {
                fit.add(one);
                numbers.add(shown(one).number);
            }
        }
        for (int i = 0; i < fit.size(); i++) {
            fit.get(i).frozenNumber = numbers.get(i);
            used.add(group(fit.get(i)) + " " + numbers.get(i));
        }
        return fit.size();
    }

    public int refer(int paragraph, int target) {
        Paragraph[] ends = {standing(paragraph), standing(target)};
        demand(ends[0] != ends[1] && ends[1].level > 0, new IllegalArgumentException());
        demand(references.size() < 30, new IllegalStateException());
        references.add(ends);
        return references.size() - 1;
    }

    public int size() {
        return text.size();
    }

    public int paragraphAt(int place) {
        demand(place >= 0 && place < text.size(), new IndexOutOfBoundsException());
        return text.get(place).name;
    }

    public int placeOf(int paragraph) {
        return text.indexOf(standing(paragraph));
    }

    public int levelOf(int paragraph) {
        return standing(paragraph).level;
    }

    public int parentOf(int paragraph) {
        Paragraph parent = parent(text, numbered(paragraph));
        return parent == null ? -1 : parent.name;
    }

    public int below(int paragraph) {
        Paragraph upper = standing(paragraph);
        return (int) text.stream().filter(p -> above(p).contains(upper)).count();
    }

    public boolean isFrozen(int paragraph) {
        return standing(paragraph).frozenNumber > 0;
    }

    public int numberOf(int paragraph) {
        return shown(numbered(paragraph)).number;
    }

    public int lettersOf(int paragraph) {
        return shown(numbered(paragraph)).letters;
    }

    public int numberByWalk(int paragraph) {
        return numberOf(paragraph);
    }

    public int lettersByWalk(int paragraph) {
        return lettersOf(paragraph);
    }

    public int ahead(int paragraph) {
        Paragraph one = numbered(paragraph);
        List<Paragraph> members = members(one);
        int index = members.indexOf(one);
        return index == 0 ? -1 : members.get(index - 1).name;
    }

    public int labelLength(int paragraph) {
        return label(numbered(paragraph), null).length();
    }

    public char labelAt(int paragraph, int index) {
        return sign(label(numbered(paragraph), null), index);
    }

    public int find(int level, int number) {
        demand(isLevel(level), new IllegalArgumentException());
        for (Paragraph one : text) {
            if (one.level == level && shown(one).equals(new Shown(number, 0))) {
                return one.name;
            }
        }
        throw new NoSuchElementException();
    }

    public int references() {
        return references.size();
    }

    public int targetOf(int reference) {
        return ends(reference)[1].name;
    }

    public boolean isBroken(int reference) {
        Paragraph[] ends = ends(reference);
        return !text.contains(ends[0]) || !text.contains(ends[1]);
    }

    public int referenceLength(int reference) {
        return referenceText(reference).length();
    }

    public char referenceAt(int reference, int index) {
        return sign(referenceText(reference), index);
    }

    public int broken() {
        int found = 0;
        for (int i = 0; i < references.size(); i++) {
            found += isBroken(i) ? 1 : 0;
        }
        return found;
    }

    public int used() {
        return used.size();
    }

    public int count(char kind) {
        demand("pfo".indexOf(kind) >= 0, new IllegalArgumentException());
        return (int) text.stream().filter(p -> kind == (p.level == 0 ? 'p' : p.frozenNumber > 0 ? 'f' : 'o')).count();
    }

    public long sum() {
        return text.stream().filter(p -> p.level > 0).mapToLong(p -> shown(p).number).sum();
    }

    public boolean isUnique() {
        Set<String> labels = new HashSet<>();
        return text.stream().filter(p -> p.level > 0).allMatch(p -> labels.add(p.level + " " + label(p, null)));
    }

    public float frozenShare() {
        demand(count('f') + count('o') > 0, new ArithmeticException());
        return (float) count('f') / (float) (count('f') + count('o'));
    }

    public int shareBits() {
        return Float.floatToIntBits(frozenShare());
    }

    public double meanNumber(int level) {
        demand(isLevel(level), new IllegalArgumentException());
        return text.stream().filter(p -> p.level == level).mapToInt(p -> shown(p).number).average()
                .orElseThrow(ArithmeticException::new);
    }

    private static void demand(boolean holds, RuntimeException otherwise) {
        if (!holds) {
            throw otherwise;
        }
    }

    private static boolean isLevel(int level) {
        return level >= 1 && level <= 4;
    }

    private Paragraph standing(int name) {
        return text.stream().filter(p -> p.name == name).findFirst().orElseThrow(NoSuchElementException::new);
    }

    private Paragraph numbered(int name) {
        Paragraph one = standing(name);
        demand(one.level > 0, new IllegalStateException());
        return one;
    }

    private Paragraph[] ends(int reference) {
        demand(reference >= 0 && reference < references.size(), new NoSuchElementException());
        return references.get(reference);
    }

    private static Paragraph parent(List<Paragraph> text, Paragraph one) {
        Paragraph found = null;
        for (Paragraph other : text.subList(0, text.indexOf(one))) {
            found = other.level > 0 && other.level < one.level ? other : found;
        }
        return found;
    }

    private boolean keepsParents(List<Paragraph> after) {
        return after.stream().filter(p -> p.frozenNumber > 0)
                .allMatch(p -> parent(after, p) == parent(text, p));
    }

    private List<Paragraph> above(Paragraph one) {
        List<Paragraph> found = new ArrayList<>();
        for (Paragraph p = parent(text, one); p != null; p = parent(text, p)) {
            found.add(0, p);
        }
        return found;
    }

    private String group(Paragraph one) {
        Paragraph parent = parent(text, one);
        return one.level + (goesOn[one.level] ? " goes on" : parent == null ? " alone" : " below " + parent.name);
    }

    private List<Paragraph> members(Paragraph one) {
        String group = group(one);
        return text.stream().filter(p -> p.level > 0 && group(p).equals(group)).toList();
    }

    private Shown shown(Paragraph wanted) {
        List<Paragraph> members = members(wanted);
        Shown last = new Shown(0, 0);
        Paragraph ahead = null;
        for (Paragraph one : members) {
            Paragraph behind = members.subList(members.indexOf(one), members.size()).stream()
                    .filter(p -> p.frozenNumber > 0).findFirst().orElse(null);
            if (behind == one) {
                last = new Shown(one.frozenNumber, 0);
            } else if (behind == null) {
                int from = last.number + 1 + (ahead == null ? 0 : ahead.reserved);
                last = new Shown(next(one, one.start > from ? one.start : from), 0);
            } else {
                int number = next(one, last.number + 1);
                boolean fits = number < behind.frozenNumber;
                last = fits ? new Shown(number, 0) : new Shown(last.number, last.letters + 1);
            }
            ahead = one;
            if (one == wanted) {
                break;
            }
        }
        return last;
    }

    private int next(Paragraph one, int from) {
        int number = from;
        while (skipped.get(one.level).contains(number) || used.contains(group(one) + " " + number)) {
            number++;
        }
        return number;
    }

    private static char sign(String text, int index) {
        demand(index >= 0 && index < text.length(), new IndexOutOfBoundsException());
        return text.charAt(index);
    }

    private String referenceText(int reference) {
        Paragraph[] ends = ends(reference);
        demand(!isBroken(reference), new IllegalStateException());
        return ends[1].level == 0 ? "" : label(ends[1], ends[0]);
    }

    private String label(Paragraph one, Paragraph source) {
        List<String> parts = new ArrayList<>();
        for (Paragraph upper : above(one)) {
            if (source == null || upper != source && !above(source).contains(upper)) {
                parts.add(part(upper));
            }
        }
        parts.add(part(one));
        return String.join(".", parts);
    }

    private String part(Paragraph one) {
        Shown shown = shown(one);
        return number(shown.number, formats[one.level]) + letters(shown.letters).toUpperCase();
    }

    private static String number(int number, char format) {
        if (number == 0) {
            return "0";
        }
        return switch (format) {
            case 'l' -> letters(number);
            case 'r' -> roman(number);
            case 'R' -> roman(number).toUpperCase();
            default -> Integer.toString(number);
        };
    }

    private static String letters(int number) {
        return number == 0 ? "" : letters((number - 1) / 26) + (char) ('a' + (number - 1) % 26);
    }

    private static String roman(int number) {
        int[] values = {1000, 900, 500, 400, 100, 90, 50, 40, 10, 9, 5, 4, 1};
        String[] signs = {"m", "cm", "d", "cd", "c", "xc", "l", "xl", "x", "ix", "v", "iv", "i"};
        StringBuilder text = new StringBuilder();
        int left = number;
        for (int i = 0; i < values.length; i++) {
            while (left >= values[i]) {
                text.append(signs[i]);
                left -= values[i];
            }
        }
        return text.toString();
    }
}
