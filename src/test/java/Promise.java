/** What the tests of promises share: the ERRORS' names, and due() by its plain name. */
abstract class Promise {
    static final int BEYOND = Due.BEYOND;
    static final int NONE = Due.NONE;
    static final int STATE = Due.STATE;
    static final int FULL = Due.FULL;
    static final int KIND = Due.KIND;
    static final int PARTED = Due.PARTED;
    static final int MIN = Due.MIN;
    static final int MAX = Due.MAX;

    static void due(String call, long got, long want) {
        Due.due(call, got, want);
    }

    static void duty(String call, long got, boolean want) {
        Due.due(call, got, want ? 1 : 0);
    }
}
