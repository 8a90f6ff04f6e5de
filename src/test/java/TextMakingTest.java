/** Promises 37 to 40: commute, commonRoot, ways, isFree. */
public final class TextMakingTest {
    private static final Class<IllegalArgumentException> WRONG = IllegalArgumentException.class;
    private static final Class<UnsupportedOperationException> NO_ROOT =
            UnsupportedOperationException.class;
    private static final String FULL = Check.FULL;
    private static final String LIKE = Check.LIKE;

    public static void main(String[] args) {
        Check.run(TextMakingTest.class);
    }

    private static void commuting(String text, String other, boolean want) {
        Check.due(text + " and " + other, Check.with(text, other).commute(0, 1), want);
        Check.due(other + " and " + text, Check.with(text, other).commute(1, 0), want);
    }

    @Says("37: Tells whether two texts joined either way round are the same.")
    static void commuteOfSomeTexts() {
        commuting("ab", "ab", true);
        commuting("ab", "abab", true);
        commuting("abab", "ababab", true);
        commuting("a", "aaa", true);
        commuting("ab", "ba", false);
        commuting("ab", "aba", false);
        commuting("ab", "abc", false);
        commuting("aab", "aabaa", false);
        commuting("a", "b", false);
        Check.due("itself", Check.with("abc").commute(0, 0), true);
    }

    @Says("37: Tells whether two texts joined either way round are the same.")
    static void commuteWithEmptyTexts() {
        commuting("", "", true);
        commuting("", "abc", true);
        commuting("", FULL, true);
        Check.due("itself, empty", new Rootsong().commute(3, 3), true);
    }

    @Says("37: Tells whether two texts joined either way round are the same.")
    static void commuteOfMoreThanSixtySigns() {
        commuting(FULL, FULL, true);
        commuting(LIKE, LIKE.substring(1), true);
        commuting(LIKE, "x", true);
        commuting(LIKE, "y", false);
        commuting("ab".repeat(30), "ab".repeat(29), true);
        commuting("ab".repeat(30), "ab".repeat(29) + "ba", false);
        commuting(LIKE, LIKE.substring(1) + "y", false);
    }

    @Says("37: Throws IndexOutOfBoundsException if there is no such slot, for any")
    static void commuteRefusesNoSlot() {
        Check.slots("a", (song, slot) -> song.commute(slot, 0));
        Check.slots("b", (song, slot) -> song.commute(0, slot));
    }

    /** Into a slot apart and into each of the two, both ways round. */
    private static void rootOf(String text, String other, String want) {
        String names = text + " and " + other;
        Check.leaves(names, Check.with(text, other, "old"), song -> song.commonRoot(2, 0, 1),
                want.length(), text, other, want);
        Check.leaves(names + " round", Check.with(text, other, "old"),
                song -> song.commonRoot(2, 1, 0), want.length(), text, other, want);
        Check.leaves(names + " into the one", Check.with(text, other),
                song -> song.commonRoot(0, 0, 1), want.length(), want, other);
        Check.leaves(names + " into the other", Check.with(text, other),
                song -> song.commonRoot(1, 0, 1), want.length(), text, want);
    }

    @Says("38: Lets a slot become the shortest text, not empty, of which two texts are repeats.")
    static void commonRootOfSomeTexts() {
        rootOf("ab", "abab", "ab");
        rootOf("abab", "ababab", "ab");
        rootOf("ab", "ab", "ab");
        rootOf("a", "a", "a");
        rootOf("aaaa", "aaaaaa", "a");
        rootOf("aba", "abaaba", "aba");
        Check.leaves("of itself", Check.with("abab"), song -> song.commonRoot(1, 0, 0), 2, "abab",
                "ab");
    }

    @Says("38: Lets a slot become the shortest text, not empty, of which two texts are repeats.")
    static void commonRootWithAnEmptyText() {
        rootOf("", "abab", "ab");
        rootOf("", "a", "a");
        rootOf("", FULL, FULL);
    }

    @Says("38: Returns how many signs it has then.")
    static void commonRootOfSixtySigns() {
        rootOf(LIKE, LIKE, "x");
        rootOf(FULL, FULL, FULL);
        rootOf(LIKE, "x", "x");
        rootOf("abc".repeat(20), "abcabc", "abc");
    }

    @Says("38: Throws IndexOutOfBoundsException if there is no such slot, for any")
    static void commonRootRefusesNoSlot() {
        Check.slots("slot", (song, slot) -> song.commonRoot(slot, 0, 1));
        Check.slots("a", (song, slot) -> song.commonRoot(0, slot, 1));
        Check.slots("b", (song, slot) -> song.commonRoot(0, 1, slot));
    }

    @Says("38: Throws UnsupportedOperationException if there is none such")
    static void commonRootRefusesWithoutOne() {
        String[][] pairs = {{"ab", "ba"}, {"ab", "aba"}, {"ab", "abc"}, {"aab", "aabaa"},
            {"a", "b"}, {"aa", "ab"}, {FULL, "0"}, {LIKE, LIKE.substring(1) + "y"},
            {"ab".repeat(30), "ab".repeat(29) + "ba"}};
        for (String[] pair : pairs) {
            Check.refused(pair[0] + " and " + pair[1], NO_ROOT,
                    Check.texts(pair[0], pair[1], "old"), song -> song.commonRoot(2, 0, 1));
            Check.refused(pair[1] + " and " + pair[0], NO_ROOT,
                    Check.texts(pair[0], pair[1], "old"), song -> song.commonRoot(0, 1, 0));
        }
    }

    @Says("38: or both are empty")
    static void commonRootRefusesTwoEmptyTexts() {
        Check.refused("two", NO_ROOT, Check.texts("", "", "old"),
                song -> song.commonRoot(2, 0, 1));
        Check.refused("one twice", NO_ROOT, Check.texts("", "", "old"),
                song -> song.commonRoot(2, 0, 0));
    }

    private static void ways(String text, long want, String... others) {
        String[] texts = new String[others.length + 1];
        texts[0] = text;
        System.arraycopy(others, 0, texts, 1, others.length);
        int set = (1 << texts.length) - 2;
        Check.due(text + " of " + String.join(", ", others), Check.with(texts).ways(0, set), want);
    }

    @Says("39: Returns in how many ways a text is made of some slots.")
    static void waysOfSomeTexts() {
        ways("aba", 2, "a", "ab", "ba");
        ways("aba", 0, "a");
        ways("aba", 0, "ab", "b");
        ways("aaa", 3, "a", "aa");
        ways("abab", 1, "ab");
        ways("aba", 1, "aba");
        ways("a", 0, "aa");
    }

    @Says("39: the slots")
    static void waysOfEachSlotByItsBit() {
        Rootsong song = Check.with("b", "bb", "bbb", "bbbb", "bbbbb", "bbbbbb");
        int[] due = {1, 1, 1, 0, 0, 1};
        for (int slot = 0; slot < 6; slot++) {
            Check.due("slot " + slot, song.ways(5, 1 << slot), (long) due[slot]);
        }
        Check.due("all", song.ways(5, 63), 32L);
        Check.due("none", song.ways(5, 0), 0L);
        Check.due("all but the first", song.ways(5, 62), 5L);
        Check.due("all but the last", song.ways(5, 31), 31L);
    }

    @Says("39: Returns in how many ways a text is made of some slots.")
    static void waysTakeLikeSlotsAsTwo() {
        ways("aba", 2, "a", "ab", "a");
        ways("aa", 4, "a", "a");
    }

    @Says("39: Returns in how many ways a text is made of some slots.")
    static void waysWithoutEmptySlots() {
        ways("aba", 2, "a", "ab", "ba", "");
        ways("aa", 1, "a", "", "");
        ways("aa", 0, "", "");
    }

    @Says("39: an empty text is made in one way.")
    static void waysOfAnEmptyText() {
        Rootsong song = Check.with("a", "", "b");
        for (int set = 0; set < 64; set++) {
            Check.due("set " + set, song.ways(1, set), 1L);
        }
        Check.due("without any sign", new Rootsong().ways(5, 63), 1L);
    }

    @Says("39: Returns how many, a long that goes round")
    static void waysGoRound() {
        ways(LIKE, Check.power(2, 60), "x", "x");
        ways(LIKE, Check.power(3, 60), "x", "x", "x");
        ways(LIKE, 0, "x", "x", "x", "x");
        ways(LIKE, Check.power(5, 60), "x", "x", "x", "x", "x");
        ways(LIKE.substring(29), Check.power(4, 31), "x", "x", "x", "x");
        ways(LIKE.substring(28), 0, "x", "x", "x", "x");
        Check.due("three like ones have gone round below 0", Check.power(3, 60) < 0, true);
    }

    @Says("39: Returns in how many ways a text is made of some slots.")
    static void waysOfSixtySigns() {
        long one = 1;
        long ahead = 1;
        for (int size = 2; size <= 60; size++) {
            long next = one + ahead;
            ahead = one;
            one = next;
        }
        ways(LIKE, one, "x", "xx");
        Check.due("of itself", Check.with(FULL).ways(0, 1), 1L);
        ways(FULL, 2, FULL.substring(0, 1), FULL.substring(1), FULL.substring(0, 59),
                FULL.substring(59));
    }

    @Says("39: Throws IndexOutOfBoundsException if there is no such slot")
    static void waysRefusesNoSlot() {
        Check.slots("a", (song, slot) -> song.ways(slot, 63));
    }

    @Says("39: Throws IllegalArgumentException if the set is out of range")
    static void waysRefusesNoSet() {
        Check.refusedEach("set", WRONG, Check.texts("ab", "a", "b"),
                (song, set) -> song.ways(0, set),
                -1, -64, 64, 65, 127, 128, Check.LOWEST, Check.HIGHEST);
        Check.refusedEach("of an empty text, set", WRONG, Check.texts(""),
                (song, set) -> song.ways(0, set), -1, 64);
    }

    /** The slots from 0 on, then also from the last one down, each time twice. */
    private static void free(boolean want, String... texts) {
        Model model = new Model();
        System.arraycopy(texts, 0, model.texts, 0, texts.length);
        String names = String.join(", ", texts);
        Check.due("the test's own answer for " + names, want, model.isFree(63));
        Rootsong song = Check.with(texts);
        Check.due("of " + names, song.isFree(63), want);
        Check.due("of " + names + " again", song.isFree(63), want);
        String[] down = new String[6];
        for (int slot = 0; slot < 6; slot++) {
            down[5 - slot] = slot < texts.length ? texts[slot] : "";
        }
        Check.due("of " + names + " downwards", Check.with(down).isFree(63), want);
    }

    @Says("40: Tells whether some slots are free")
    static void isFreeOfSomeSlots() {
        free(true, "a", "ab");
        free(true, "a", "ba");
        free(true, "ab", "ba", "aab");
        free(true, "aab", "ab", "b");
        free(true, "car", "caro", "on", "rin");
        free(true, "ab", "abb", "baab");
        free(true, "aaaab", "aaab", "aab", "ab", "b", "aaaaab");
        free(false, "a", "aa");
        free(false, "a", "ab", "ba");
        free(false, "ab", "abab");
        free(false, "aa", "aaa");
        free(false, "aab", "b", "aa");
        free(false, "car", "caro", "on", "ron", "o");
        free(false, "abc", "cab", "ab", "ca", "bcb", "b");
        free(false, "ab", "abb", "baab", "babba");
    }

    @Says("40: Tells whether some slots are free")
    static void isFreeNotOfLikeSlots() {
        free(false, "a", "a");
        free(false, "a", "", "a");
        free(false, FULL, FULL);
        free(false, "b", "ab", "abb", "abbb", "abbbb", "b");
    }

    @Says("40: those with empty texts do not matter.")
    static void isFreeWithEmptyTexts() {
        free(true, "", "a", "");
        free(true, "", "a", "", "ab");
        free(false, "", "a", "", "aa");
    }

    @Says("40: true without any whose text is not empty.")
    static void isFreeWithoutAny() {
        free(true);
        Rootsong song = Check.with("a", "a", "", "", "", "");
        Check.due("no slot", song.isFree(0), true);
        Check.due("empty ones alone", song.isFree(4 + 8 + 16 + 32), true);
        for (int set = 0; set < 64; set++) {
            Check.due("of a new object, set " + set, new Rootsong().isFree(set), true);
        }
    }

    @Says("40: the slots")
    static void isFreeOfEachSlotByItsBit() {
        Rootsong song = Check.with("a", "a", "b", "bb", "cc", "c");
        for (int set = 0; set < 64; set++) {
            boolean isMet = (set & 3) == 3 || (set & 12) == 12 || (set & 48) == 48;
            Check.due("set " + set, song.isFree(set), !isMet);
        }
    }

    @Says("40: Tells whether some slots are free")
    static void isFreeOfSixtySigns() {
        free(true, FULL);
        free(true, FULL, FULL.substring(1) + "y", FULL.substring(2) + "y");
        free(false, FULL, FULL.substring(0, 1), FULL.substring(1));
        free(false, LIKE, "x");
        free(false, LIKE, LIKE.substring(1));
        free(true, LIKE, LIKE.substring(1) + "y");
    }

    /** Each of the long ones can be begun by x and y sign by sign, up to ahead of its z. */
    @Says("40: Tells whether some slots are free")
    static void isFreeOfLongTextsWithManyRemainders() {
        String one = "xyxxyxyy".repeat(8).substring(0, 59) + "z";
        String two = "yxxyyxyxxx".repeat(6).substring(0, 59) + "z";
        String three = "xxxxyyyyyxy".repeat(6).substring(0, 59) + "z";
        String four = "yyxyyyyx".repeat(8).substring(0, 59) + "z";
        free(true, "x", "y", one, two, three, four);
        for (int from : new int[] {1, 30, 58, 59}) {
            free(false, "x", "y", one, two, three, three.substring(from));
            free(false, one.substring(from), two, three, one, "x", "y");
        }
    }

    /** The same remainders come again and again here, ahead of the one that ends two rows. */
    @Says("40: Tells whether some slots are free")
    static void isFreeOfLongTextsWithLikeRemainders() {
        free(false, "bb", "b".repeat(38) + "z", "b".repeat(40) + "z" + "b".repeat(19),
                "a" + "b".repeat(40) + "z" + "b".repeat(18),
                "b".repeat(43) + "z" + "b".repeat(16));
    }

    /** All triples of texts of at most three signs a and b. */
    @Says("40: Tells whether some slots are free")
    static void isFreeOfAllShortTexts() {
        String[] texts = {"", "a", "b", "aa", "ab", "ba", "bb", "aaa", "aab", "aba", "abb", "baa",
            "bab", "bba", "bbb"};
        Model model = new Model();
        for (String one : texts) {
            for (String two : texts) {
                for (String three : texts) {
                    model.texts[0] = one;
                    model.texts[1] = two;
                    model.texts[5] = three;
                    Check.due("of " + one + ", " + two + ", " + three,
                            Check.with(one, two, "", "", "", three).isFree(63), model.isFree(63));
                }
            }
        }
    }

    @Says("40: Throws IllegalArgumentException if the set is out of range")
    static void isFreeRefusesNoSet() {
        Check.refusedEach("set", WRONG, Check.texts("ab", "a"), (song, set) -> song.isFree(set),
                -1, -64, 64, 65, 127, 128, Check.LOWEST, Check.HIGHEST);
    }
}
