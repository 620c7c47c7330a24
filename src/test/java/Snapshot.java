/** All that can be read off an object, in a text; what cannot be asked is found by calls that change it. */
final class Snapshot {
    private Snapshot() {
    }

    /** Meant for some ten paragraphs: an object answers 512 calls. The object is spent then. */
    static String of(NumberingTree tree) {
        StringBuilder text = new StringBuilder();
        text.append(Check.labels(tree)).append(" | used ").append(tree.used()).append(" | ");
        for (int place = 0; place < tree.size(); place++) {
            int paragraph = tree.paragraphAt(place);
            text.append(paragraph).append(':').append(tree.levelOf(paragraph));
            text.append(tree.isFrozen(paragraph) ? "f " : " ");
        }
        for (int reference = 0; reference < tree.references(); reference++) {
            text.append("-> ").append(tree.targetOf(reference));
            text.append(tree.isBroken(reference) ? " broken " : " " + Check.reference(tree, reference) + " ");
        }
        appendHidden(text, tree);
        return text.toString();
    }

    private static void appendHidden(StringBuilder text, NumberingTree tree) {
        for (int level = 1; level <= 4; level++) {
            text.append("| level ").append(level).append(' ').append(tree.setFormat(level, 'd')).append(' ');
            text.append(skippedAmount(tree, level)).append(' ').append(goingOn(tree, level));
        }
        for (int place = 0; place < tree.size(); place++) {
            int paragraph = tree.paragraphAt(place);
            text.append("| start ").append(tree.startAt(paragraph, 0));
            text.append(" reserved ").append(tree.reserve(paragraph, 0));
        }
        text.append("| next ").append(nextName(tree));
    }

    private static String skippedAmount(NumberingTree tree, int level) {
        try {
            return "" + (tree.skip(level, 99) - 1);
        } catch (IllegalStateException e) {
            return tree.unskip(level, 99) + " and 99";
        }
    }

    private static String goingOn(NumberingTree tree, int level) {
        try {
            return "" + tree.setGoingOn(level, false);
        } catch (UnsupportedOperationException e) {
            return "held";
        }
    }

    private static String nextName(NumberingTree tree) {
        try {
            return "" + tree.insert(tree.size(), 0);
        } catch (IllegalStateException e) {
            return "none";
        }
    }
}
