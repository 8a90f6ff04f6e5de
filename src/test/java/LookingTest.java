/** Promises 13 to 19: first, last, many, isSame, compare, common, commonEnd. */
public final class LookingTest {
    private static final int FAR = Integer.MAX_VALUE;
    private static final int LOW = Integer.MIN_VALUE;
    private static final String FULL = "x".repeat(60);

    public static void main(String[] args) {
        first();
        last();
        many();
        isSame();
        compare();
        common();
        commonEnd();
        slots();
        Check.end("LookingTest");
    }

    private static void first() {
        Rootsong song = Check.with("abcabc", "bc", "", "abcabcd", FULL);
        int[][] places = {{0, 1}, {1, 1}, {2, 4}, {4, 4}, {5, -1}, {6, -1}, {7, -1}, {-1, 1},
            {LOW, 1}, {FAR, -1}};
        for (int[] pair : places) {
            Check.due("13: first from " + pair[0], song.first(0, 1, pair[0]), pair[1]);
        }
        int[][] emptyPlaces = {{0, 0}, {5, 5}, {6, 6}, {7, 6}, {FAR, 6}, {-1, 0}, {LOW, 0}};
        for (int[] pair : emptyPlaces) {
            Check.due("13: an empty one from " + pair[0], song.first(0, 2, pair[0]), pair[1]);
        }
        Check.due("13: itself", song.first(0, 0, 0), 0);
        Check.due("13: itself, later", song.first(0, 0, 1), -1);
        Check.due("13: a longer one", song.first(0, 3, 0), -1);
        Check.due("13: an empty one in an empty one", song.first(2, 2, 9), 0);
        Check.due("13: one in an empty one", song.first(2, 1, 0), -1);
        Check.due("13: in 60 signs", song.first(4, 4, 0), 0);
    }

    private static void last() {
        Rootsong song = Check.with("abcabc", "bc", "", "abcabcd", FULL);
        int[][] places = {{FAR, 4}, {6, 4}, {4, 4}, {3, 1}, {1, 1}, {0, -1}, {-1, -1}, {LOW, -1}};
        for (int[] pair : places) {
            Check.due("14: last till " + pair[0], song.last(0, 1, pair[0]), pair[1]);
        }
        int[][] emptyPlaces = {{FAR, 6}, {7, 6}, {6, 6}, {5, 5}, {0, 0}, {-1, -1}, {LOW, -1}};
        for (int[] pair : emptyPlaces) {
            Check.due("14: an empty one till " + pair[0], song.last(0, 2, pair[0]), pair[1]);
        }
        Check.due("14: itself", song.last(0, 0, 0), 0);
        Check.due("14: a longer one", song.last(0, 3, FAR), -1);
        Check.due("14: an empty one in an empty one", song.last(2, 2, 9), 0);
        Check.due("14: in 60 signs", song.last(4, 4, FAR), 0);
    }

    private static void many() {
        counting("aaaaa", "aa", 2, 4);
        counting("abababa", "aba", 2, 3);
        counting("abc", "abc", 1, 1);
        counting("abc", "abcd", 0, 0);
        counting("", "a", 0, 0);
        counting("abc", "c", 1, 1);
        counting(FULL, "x", 60, 60);
        counting(FULL, "xxxxxxx", 8, 54);
        Rootsong song = Check.with("abc");
        for (boolean isApart : new boolean[] {true, false}) {
            Check.refused(song, "15: an empty one", UnsupportedOperationException.class,
                    () -> song.many(0, 1, isApart));
            Check.refused(song, "15: an empty one in itself", UnsupportedOperationException.class,
                    () -> song.many(1, 1, isApart));
            for (int slot : Check.noSlots()) {
                Check.refused(song, "15: a " + slot, IndexOutOfBoundsException.class,
                        () -> song.many(slot, 1, isApart));
                Check.refused(song, "15: what " + slot, IndexOutOfBoundsException.class,
                        () -> song.many(1, slot, isApart));
            }
        }
    }

    private static void counting(String text, String what, int apart, int all) {
        Rootsong song = Check.with(text, what);
        Check.due("15: " + what + " apart in " + text, song.many(0, 1, true), apart);
        Check.due("15: " + what + " in " + text, song.many(0, 1, false), all);
    }

    private static void isSame() {
        Rootsong song = Check.with("abc", "abc", "abd", "ab", "", "");
        Check.due("16: the same", song.isSame(0, 1), true);
        Check.due("16: itself", song.isSame(0, 0), true);
        Check.due("16: unlike", song.isSame(0, 2), false);
        Check.due("16: shorter", song.isSame(0, 3), false);
        Check.due("16: longer", song.isSame(3, 0), false);
        Check.due("16: one empty", song.isSame(0, 4), false);
        Check.due("16: both empty", song.isSame(4, 5), true);
    }

    private static void compare() {
        Rootsong song = Check.with("abc", "abz", "ab", "", "~", " q");
        Check.due("17: less", song.compare(0, 1), 'c' - 'z');
        Check.due("17: more", song.compare(1, 0), 'z' - 'c');
        Check.due("17: longer", song.compare(0, 2), 1);
        Check.due("17: shorter", song.compare(2, 0), -1);
        Check.due("17: than an empty one", song.compare(0, 3), 3);
        Check.due("17: an empty one", song.compare(3, 0), -3);
        Check.due("17: itself", song.compare(0, 0), 0);
        Check.due("17: the farthest codes", song.compare(4, 5), 94);
    }

    private static void common() {
        Rootsong song = Check.with("abcd", "abxd", "ab", "", "xb", FULL);
        Check.due("18: some", song.common(0, 1), 2);
        Check.due("18: all of one", song.common(0, 2), 2);
        Check.due("18: all of one, the other way", song.common(2, 0), 2);
        Check.due("18: none", song.common(0, 4), 0);
        Check.due("18: with an empty one", song.common(0, 3), 0);
        Check.due("18: with itself", song.common(5, 5), 60);
    }

    private static void commonEnd() {
        Rootsong song = Check.with("abcd", "axcd", "cd", "", "cx", FULL);
        Check.due("19: some", song.commonEnd(0, 1), 2);
        Check.due("19: all of one", song.commonEnd(0, 2), 2);
        Check.due("19: all of one, the other way", song.commonEnd(2, 0), 2);
        Check.due("19: none", song.commonEnd(0, 4), 0);
        Check.due("19: with an empty one", song.commonEnd(0, 3), 0);
        Check.due("19: with itself", song.commonEnd(5, 5), 60);
    }

    private static void slots() {
        Rootsong song = Check.with("ab", "b");
        Class<IndexOutOfBoundsException> outside = IndexOutOfBoundsException.class;
        for (int slot : Check.noSlots()) {
            Check.thrown("13: a " + slot, outside, () -> song.first(slot, 1, 0));
            Check.thrown("13: what " + slot, outside, () -> song.first(0, slot, 0));
            Check.thrown("14: a " + slot, outside, () -> song.last(slot, 1, -1));
            Check.thrown("14: what " + slot, outside, () -> song.last(0, slot, -1));
            Check.thrown("16: a " + slot, outside, () -> song.isSame(slot, 1));
            Check.thrown("16: b " + slot, outside, () -> song.isSame(0, slot));
            Check.thrown("17: a " + slot, outside, () -> song.compare(slot, 1));
            Check.thrown("17: b " + slot, outside, () -> song.compare(0, slot));
            Check.thrown("18: a " + slot, outside, () -> song.common(slot, 1));
            Check.thrown("18: b " + slot, outside, () -> song.common(0, slot));
            Check.thrown("19: a " + slot, outside, () -> song.commonEnd(slot, 1));
            Check.thrown("19: b " + slot, outside, () -> song.commonEnd(0, slot));
        }
    }
}
