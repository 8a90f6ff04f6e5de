/** Promises 37 to 40: commute, commonRoot, ways, isFree. */
public final class TextMakingTest {
    private static final Class<IndexOutOfBoundsException> OUTSIDE = IndexOutOfBoundsException.class;
    private static final String FULL = "x".repeat(60);

    public static void main(String[] args) {
        roots();
        rootsRefuse();
        ways();
        waysRefuse();
        isFree();
        isFreeRefuses();
        Check.end("TextMakingTest");
    }

    private static void roots() {
        rootOf("ab", "abab", "ab");
        rootOf("abab", "ab", "ab");
        rootOf("abab", "ababab", "ab");
        rootOf("ab", "ab", "ab");
        rootOf("", "abab", "ab");
        rootOf("abab", "", "ab");
        rootOf("aaaa", "aaaaaa", "a");
        rootOf(FULL, FULL, "x");
        rootOf("ab", "ba", null);
        rootOf("ab", "aba", null);
        rootOf("ab", "abc", null);
        rootOf("aab", "aabaa", null);
        rootOf("a", "b", null);
        rootOf("ab".repeat(30), "ab".repeat(29) + "ba", null);
        Rootsong empty = Check.with("", "", "abc");
        Check.due("37: both empty", empty.commute(0, 1), true);
        Check.due("37: with itself", empty.commute(2, 2), true);
        Check.refused(empty, "38: both empty", UnsupportedOperationException.class,
                () -> empty.commonRoot(2, 0, 1));
        Check.due("38: with itself", empty.commonRoot(2, 2, 2), 3);
    }

    private static void rootOf(String text, String other, String want) {
        String names = text + " and " + other;
        Rootsong song = Check.with(text, other, "else");
        Check.due("37: " + names, song.commute(0, 1), want != null);
        if (want == null) {
            Check.refused(song, "38: " + names, UnsupportedOperationException.class,
                    () -> song.commonRoot(2, 0, 1));
            return;
        }
        Check.due("38: " + names, song.commonRoot(2, 0, 1), want.length());
        Check.due("38: the text of " + names, Check.all(song),
                text + "\n" + other + "\n" + want + "\n\n\n\n");
        for (int slot = 0; slot < 2; slot++) {
            Rootsong again = Check.with(text, other);
            again.commonRoot(slot, 0, 1);
            Check.due("38: " + names + " into " + slot, Check.text(again, slot), want);
        }
    }

    private static void rootsRefuse() {
        Rootsong song = Check.with("ab", "");
        for (int slot : Check.noSlots()) {
            Check.thrown("37: a " + slot, OUTSIDE, () -> song.commute(slot, 1));
            Check.thrown("37: b " + slot, OUTSIDE, () -> song.commute(0, slot));
            Check.refused(song, "38: slot " + slot, OUTSIDE, () -> song.commonRoot(slot, 1, 1));
            Check.refused(song, "38: a " + slot, OUTSIDE, () -> song.commonRoot(0, slot, 1));
            Check.refused(song, "38: b " + slot, OUTSIDE, () -> song.commonRoot(0, 1, slot));
        }
    }

    private static void ways() {
        Rootsong song = Check.with("aba", "a", "ab", "ba", "", "a");
        Check.due("39: of three", song.ways(0, 2 + 4 + 8), 2L);
        Check.due("39: an empty slot does not count", song.ways(0, 2 + 4 + 8 + 16), 2L);
        Check.due("39: like slots are two", song.ways(0, 2 + 4 + 32), 2L);
        Check.due("39: of itself", song.ways(0, 1), 1L);
        Check.due("39: of all", song.ways(0, 63), 5L);
        Check.due("39: none", song.ways(0, 2), 0L);
        Check.due("39: of no slots", song.ways(0, 0), 0L);
        Check.due("39: an empty text", song.ways(4, 63), 1L);
        Check.due("39: an empty text of no slots", song.ways(4, 0), 1L);
        Check.due("39: an empty text of itself", song.ways(4, 16), 1L);
        Rootsong full = Check.with(FULL, "x", "x", "x", "x", "xx");
        long two = 1;
        for (int times = 0; times < 60; times++) {
            two *= 2;
        }
        Check.due("39: two like ones", full.ways(0, 2 + 4), two);
        Check.due("39: four like ones, gone round", full.ways(0, 2 + 4 + 8 + 16), 0L);
        long three = 1;
        for (int times = 0; times < 60; times++) {
            three *= 3;
        }
        Check.due("39: three like ones, gone round", full.ways(0, 2 + 4 + 8), three);
        long one = 1;
        long ahead = 1;
        for (int size = 2; size <= 60; size++) {
            long next = one + ahead;
            ahead = one;
            one = next;
        }
        Check.due("39: Fibonacci's", full.ways(0, 2 + 32), one);
    }

    private static void waysRefuse() {
        Rootsong song = Check.with("ab");
        for (int set : new int[] {-1, 64, 65, Integer.MIN_VALUE, Integer.MAX_VALUE}) {
            Check.thrown("39: set " + set, IllegalArgumentException.class, () -> song.ways(1, set));
        }
        for (int slot : Check.noSlots()) {
            Check.thrown("39: a " + slot, OUTSIDE, () -> song.ways(slot, 64));
        }
    }

    private static void isFree() {
        free(true);
        free(true, "a");
        free(true, "", "a", "");
        free(true, FULL);
        free(true, "a", "ab");
        free(true, "a", "ba");
        free(true, "ab", "ba", "aab");
        free(false, "a", "a");
        free(false, "a", "", "a");
        free(false, "a", "aa");
        free(false, "a", "ab", "ba");
        free(false, "ab", "abab");
        free(false, "aa", "aaa");
        free(false, "aab", "b", "aa");
        free(true, "aab", "ab", "b");
        free(false, "car", "caro", "on", "ron", "o");
        free(true, "car", "caro", "on", "rin");
        free(false, "abc", "cab", "ab", "ca", "bcb", "b");
        free(true, "ab", "abb", "baab");
        free(false, "ab", "abb", "baab", "babba");
        free(true, "aaaab", "aaab", "aab", "ab", "b", "aaaaab");
        free(false, FULL, FULL.substring(1), "y");
        free(true, FULL, FULL.substring(1) + "y", FULL.substring(2) + "y");
        longTexts();
        shortTexts();
        Rootsong song = Check.with("a", "ab", "ba", "a");
        Check.due("40: some of them", song.isFree(3), true);
        Check.due("40: others of them", song.isFree(5), true);
        Check.due("40: just one", song.isFree(8), true);
        Check.due("40: like ones", song.isFree(9), false);
        Check.due("40: none", song.isFree(0), true);
    }

    private static void free(boolean want, String... texts) {
        Rootsong song = Check.with(texts);
        Model model = new Model();
        System.arraycopy(texts, 0, model.texts, 0, texts.length);
        String names = String.join(", ", texts);
        Check.due("40: the test's own answer for " + names, want, model.isFree(63));
        Check.due("40: of " + names, song.isFree(63), want);
        Check.due("40: of " + names + " again", song.isFree(63), want);
    }

    /** Each of the long ones can be begun by x and y sign by sign, up to ahead of its z. */
    private static void longTexts() {
        String one = "xyxxyxyy".repeat(8).substring(0, 59) + "z";
        String two = "yxxyyxyxxx".repeat(6).substring(0, 59) + "z";
        String three = "xxxxyyyyyxy".repeat(6).substring(0, 59) + "z";
        String four = "yyxyyyyx".repeat(8).substring(0, 59) + "z";
        free(true, "x", "y", one, two, three, four);
        for (int from : new int[] {1, 30, 58, 59}) {
            free(false, "x", "y", one, two, three, three.substring(from));
            free(false, one.substring(from), two, three, one, "x", "y");
        }
    }

    /** All triples of texts of at most three signs a and b. */
    private static void shortTexts() {
        String[] texts = {"", "a", "b", "aa", "ab", "ba", "bb", "aaa", "aab", "aba", "abb", "baa",
            "bab", "bba", "bbb"};
        Model model = new Model();
        for (String one : texts) {
            for (String two : texts) {
                for (String three : texts) {
                    model.texts[0] = one;
                    model.texts[1] = two;
                    model.texts[5] = three;
                    Check.due("40: of " + one + ", " + two + ", " + three,
                            Check.with(one, two, "", "", "", three).isFree(63), model.isFree(63));
                }
            }
        }
    }

    private static void isFreeRefuses() {
        Rootsong song = Check.with("ab");
        for (int set : new int[] {-1, 64, 65, Integer.MIN_VALUE, Integer.MAX_VALUE}) {
            Check.thrown("40: set " + set, IllegalArgumentException.class,
                    () -> song.isFree(set));
        }
    }
}
