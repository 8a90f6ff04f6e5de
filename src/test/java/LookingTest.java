/** Promises 13 to 19: first, last, many, isSame, compare, common, commonEnd. */
public final class LookingTest {
    private static final String FULL = Check.FULL;
    private static final String LIKE = Check.LIKE;

    public static void main(String[] args) {
        Check.run(LookingTest.class);
    }

    /** Pairs of a number and the place that is due from it on. */
    private static void firsts(String text, String what, int[]... pairs) {
        Rootsong song = Check.with(text, what);
        for (int[] pair : pairs) {
            Check.due(what + " in " + text + " from " + pair[0], song.first(0, 1, pair[0]),
                    pair[1]);
        }
    }

    @Says("13: Returns the first place, not ahead of a number")
    static void firstNotAheadOfTheNumber() {
        firsts("abcabc", "bc", new int[][] {{0, 1}, {1, 1}, {2, 4}, {3, 4}, {4, 4}});
        firsts("aaaa", "aa", new int[][] {{0, 0}, {1, 1}, {2, 2}});
        firsts("abc", "abc", new int[][] {{0, 0}});
        firsts(FULL, FULL, new int[][] {{0, 0}});
        firsts(FULL, FULL.substring(59), new int[][] {{0, 59}, {58, 59}, {59, 59}});
    }

    @Says("13: below 0 it counts as 0")
    static void firstFromBelowNone() {
        firsts("abcabc", "bc", new int[][] {{-1, 1}, {-2, 1}, {Check.LOWEST, 1}});
        firsts("abcabc", "abc", new int[][] {{-1, 0}, {Check.LOWEST, 0}});
        firsts("abc", "", new int[][] {{-1, 0}, {Check.LOWEST, 0}});
        firsts("", "", new int[][] {{-1, 0}, {Check.LOWEST, 0}});
        firsts("", "a", new int[][] {{-1, -1}, {Check.LOWEST, -1}});
    }

    @Says("13: above how many signs there are as that")
    static void firstFromBehindTheEnd() {
        firsts("abc", "", new int[][] {{4, 3}, {5, 3}, {60, 3}, {61, 3}, {Check.HIGHEST, 3}});
        firsts("", "", new int[][] {{1, 0}, {Check.HIGHEST, 0}});
        firsts(FULL, "", new int[][] {{61, 60}, {Check.HIGHEST, 60}});
        firsts("abc", "c", new int[][] {{4, -1}, {Check.HIGHEST, -1}});
    }

    @Says("13: Returns the place, -1 without one.")
    static void firstWithoutAPlace() {
        firsts("abcabc", "bc", new int[][] {{5, -1}, {6, -1}});
        firsts("abcabc", "ac", new int[][] {{0, -1}});
        firsts("abc", "abc", new int[][] {{1, -1}, {3, -1}});
        firsts("abc", "abcd", new int[][] {{0, -1}, {-1, -1}});
        firsts("bc", "abc", new int[][] {{0, -1}});
        firsts("", "a", new int[][] {{0, -1}, {1, -1}});
        firsts(FULL, FULL, new int[][] {{1, -1}, {60, -1}});
    }

    @Says("13: Throws IndexOutOfBoundsException if there is no such slot, for any")
    static void firstRefusesNoSlot() {
        Check.slots("a", (song, slot) -> song.first(slot, 0, 0));
        Check.slots("what", (song, slot) -> song.first(0, slot, 0));
    }

    /** Pairs of a number and the last place that is due up to it. */
    private static void lasts(String text, String what, int[]... pairs) {
        Rootsong song = Check.with(text, what);
        for (int[] pair : pairs) {
            Check.due(what + " in " + text + " till " + pair[0], song.last(0, 1, pair[0]),
                    pair[1]);
        }
    }

    @Says("14: Returns the last place, not behind a number")
    static void lastNotBehindTheNumber() {
        lasts("abcabc", "bc", new int[][] {{4, 4}, {3, 1}, {2, 1}, {1, 1}});
        lasts("aaaa", "aa", new int[][] {{2, 2}, {1, 1}, {0, 0}});
        lasts("abc", "abc", new int[][] {{0, 0}});
        lasts(FULL, FULL, new int[][] {{0, 0}});
        lasts(FULL, FULL.substring(59), new int[][] {{59, 59}, {58, -1}});
    }

    @Says("14: the number; any")
    static void lastTillBehindTheEnd() {
        lasts("abcabc", "bc", new int[][] {{5, 4}, {6, 4}, {7, 4}, {60, 4}, {Check.HIGHEST, 4}});
        lasts("abc", "abc", new int[][] {{3, 0}, {4, 0}, {Check.HIGHEST, 0}});
        lasts("abc", "", new int[][] {{3, 3}, {4, 3}, {60, 3}, {Check.HIGHEST, 3}});
        lasts("", "", new int[][] {{0, 0}, {1, 0}, {Check.HIGHEST, 0}});
        lasts(FULL, "", new int[][] {{60, 60}, {61, 60}, {Check.HIGHEST, 60}});
        lasts(FULL, FULL, new int[][] {{60, 0}, {Check.HIGHEST, 0}});
    }

    @Says("14: below 0 there is no place")
    static void lastTillBelowNone() {
        lasts("abcabc", "abc", new int[][] {{-1, -1}, {-2, -1}, {Check.LOWEST, -1}});
        lasts("abc", "", new int[][] {{-1, -1}, {Check.LOWEST, -1}});
        lasts("", "", new int[][] {{-1, -1}, {Check.LOWEST, -1}});
    }

    @Says("14: Returns the place, -1 without one.")
    static void lastWithoutAPlace() {
        lasts("abcabc", "bc", new int[][] {{0, -1}});
        lasts("abcabc", "ac", new int[][] {{6, -1}, {Check.HIGHEST, -1}});
        lasts("abc", "abcd", new int[][] {{0, -1}, {Check.HIGHEST, -1}});
        lasts("bc", "abc", new int[][] {{Check.HIGHEST, -1}});
        lasts("", "a", new int[][] {{0, -1}, {Check.HIGHEST, -1}});
    }

    @Says("14: Throws IndexOutOfBoundsException if there is no such slot, for any")
    static void lastRefusesNoSlot() {
        Check.slots("a", (song, slot) -> song.last(slot, 0, 0));
        Check.slots("what", (song, slot) -> song.last(0, slot, 0));
    }

    private static void counting(String text, String what, int apart, int all) {
        Rootsong song = Check.with(text, what);
        Check.due(what + " apart in " + text, song.many(0, 1, true), apart);
        Check.due(what + " in " + text, song.many(0, 1, false), all);
    }

    @Says("15: Tells at how many places one text stands in another one.")
    static void manyAtNoneToAllPlaces() {
        counting("abc", "abc", 1, 1);
        counting("abc", "c", 1, 1);
        counting("abca", "a", 2, 2);
        counting("abc", "abcd", 0, 0);
        counting("abc", "ac", 0, 0);
        counting("", "a", 0, 0);
        counting(LIKE, "x", 60, 60);
        counting(LIKE, LIKE, 1, 1);
    }

    @Says("15: whether just those count that are found from the left")
    static void manyApartFromTheLeft() {
        counting("aaa", "aa", 1, 2);
        counting("aaaaa", "aa", 2, 4);
        counting("abababa", "aba", 2, 3);
        counting("ababa", "aba", 1, 2);
        counting(LIKE, "xxxxxxx", 8, 54);
        counting(LIKE, LIKE.substring(1), 1, 2);
    }

    @Says("15: Throws IndexOutOfBoundsException if there is no such slot, for any")
    static void manyRefusesNoSlot() {
        for (boolean isApart : new boolean[] {true, false}) {
            Check.slots("a", (song, slot) -> song.many(slot, 0, isApart));
            Check.slots("what", (song, slot) -> song.many(0, slot, isApart));
        }
    }

    @Says("15: Throws UnsupportedOperationException if what is looked for is empty")
    static void manyRefusesToLookForNothing() {
        String[] texts = {"abc", "", "", FULL};
        for (boolean isApart : new boolean[] {true, false}) {
            Check.refusedEach("in slot", UnsupportedOperationException.class, texts,
                    (song, slot) -> song.many(slot, 1, isApart), 0, 1, 2, 3);
        }
    }

    private static void same(String text, String other, boolean want) {
        Check.due(text + " and " + other, Check.with(text, other).isSame(0, 1), want);
        Check.due(other + " and " + text, Check.with(text, other).isSame(1, 0), want);
    }

    @Says("16: Tells whether two texts are the same.")
    static void isSameFromEmptyToFull() {
        same("abc", "abc", true);
        same("", "", true);
        same(FULL, FULL, true);
        same("abc", "abd", false);
        same("abc", "bbc", false);
        same("abc", "ab", false);
        same("abc", "bc", false);
        same("a", "", false);
        same(FULL, FULL.substring(0, 59), false);
        same(FULL, FULL.substring(0, 59) + "~", false);
        Check.due("itself", Check.with("abc").isSame(0, 0), true);
        Check.due("itself, empty", Check.with("abc").isSame(1, 1), true);
    }

    @Says("16: Throws IndexOutOfBoundsException if there is no such slot, for any")
    static void isSameRefusesNoSlot() {
        Check.slots("a", (song, slot) -> song.isSame(slot, 0));
        Check.slots("b", (song, slot) -> song.isSame(0, slot));
    }

    private static void comparing(String text, String other, int want) {
        Check.due(text + " with " + other, Check.with(text, other).compare(0, 1), want);
        Check.due(other + " with " + text, Check.with(text, other).compare(1, 0), -want);
    }

    @Says("17: the code of the first one less that of the second one where they first differ")
    static void compareWhereTheyDiffer() {
        comparing("abz", "abc", 'z' - 'c');
        comparing("bba", "abz", 1);
        comparing("b", "abc", 1);
        comparing("~", " ", 126 - 32);
        comparing(FULL.substring(0, 59) + "~", FULL, '~' - 'X');
    }

    @Says("17: if they do not, how many more signs the first one has, below 0 if it has fewer.")
    static void compareWhereTheyDoNotDiffer() {
        comparing("abc", "ab", 1);
        comparing("abc", "", 3);
        comparing(FULL, "", 60);
        comparing(FULL, FULL.substring(0, 59), 1);
        comparing("abc", "abc", 0);
        comparing("", "", 0);
        Check.due("itself", Check.with(FULL).compare(0, 0), 0);
    }

    @Says("17: Throws IndexOutOfBoundsException if there is no such slot, for any")
    static void compareRefusesNoSlot() {
        Check.slots("a", (song, slot) -> song.compare(slot, 0));
        Check.slots("b", (song, slot) -> song.compare(0, slot));
    }

    private static void beginning(String text, String other, int want) {
        Check.due(text + " and " + other, Check.with(text, other).common(0, 1), want);
        Check.due(other + " and " + text, Check.with(text, other).common(1, 0), want);
    }

    @Says("18: Returns how many signs the longest text has that begins two texts.")
    static void commonFromNoneToAll() {
        beginning("abcd", "abxd", 2);
        beginning("abcd", "ab", 2);
        beginning("abcd", "xbcd", 0);
        beginning("abcd", "", 0);
        beginning("", "", 0);
        beginning("abcd", "abcd", 4);
        beginning(FULL, FULL, 60);
        beginning(FULL, FULL.substring(0, 59) + "~", 59);
        beginning(FULL, FULL.substring(0, 59), 59);
        Check.due("itself", Check.with("abc").common(0, 0), 3);
    }

    @Says("18: Throws IndexOutOfBoundsException if there is no such slot, for any")
    static void commonRefusesNoSlot() {
        Check.slots("a", (song, slot) -> song.common(slot, 0));
        Check.slots("b", (song, slot) -> song.common(0, slot));
    }

    private static void ending(String text, String other, int want) {
        Check.due(text + " and " + other, Check.with(text, other).commonEnd(0, 1), want);
        Check.due(other + " and " + text, Check.with(text, other).commonEnd(1, 0), want);
    }

    @Says("19: Returns how many signs the longest text has that is an end of two texts.")
    static void commonEndFromNoneToAll() {
        ending("abcd", "axcd", 2);
        ending("abcd", "cd", 2);
        ending("abcd", "abcx", 0);
        ending("abcd", "", 0);
        ending("", "", 0);
        ending("abcd", "abcd", 4);
        ending(FULL, FULL, 60);
        ending(FULL, "~" + FULL.substring(1), 59);
        ending(FULL, FULL.substring(1), 59);
        Check.due("itself", Check.with("abc").commonEnd(0, 0), 3);
    }

    @Says("19: Throws IndexOutOfBoundsException if there is no such slot, for any")
    static void commonEndRefusesNoSlot() {
        Check.slots("a", (song, slot) -> song.commonEnd(slot, 0));
        Check.slots("b", (song, slot) -> song.commonEnd(0, slot));
    }
}
