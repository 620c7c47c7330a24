/**
 * A sentence of the document that names a boundary case, told by its promise (TERMS for the words that all share) and
 * the words that it begins with, and the test of it.
 */
record Edge(int promise, String begins, Runnable test) {
    static final int TERMS = 0;
}
