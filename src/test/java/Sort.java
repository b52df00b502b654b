/** The sorts of arrays, and what instructions there are for each. */
final class Sort {
    static final int[] ALL = {4, 8, 5, 9, 10, 11, 12};

    private Sort() {
    }

    static int load(int sort) {
        return sort == 10 ? 46 : sort == 11 ? 47 : sort == 12 ? 50 : sort == 5 ? 52 : sort == 9 ? 53 : 51;
    }

    static int store(int sort) {
        return load(sort) + 33;
    }

    /** From an I to a new array. */
    static int[] make(int sort) {
        return sort == 12 ? new int[] {189} : new int[] {188, sort};
    }

    /** An element taken away from the stack. */
    static int away(int sort) {
        return sort == 11 ? 88 : 87;
    }

    /** An element brought to the stack. */
    static int value(int sort) {
        return sort == 11 ? 10 : sort == 12 ? 1 : 4;
    }

    static int wordsOf(int sort, int length) {
        if (sort == 11) return 2 + length + length;
        if (sort == 10 || sort == 12) return 2 + length;
        int together = sort == 4 || sort == 8 ? 4 : 2;
        int words = 2;
        for (int rest = length; rest > 0; rest -= together) words++;
        return words;
    }
}
