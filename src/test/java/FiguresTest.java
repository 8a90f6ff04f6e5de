/** Promises 41 to 44: rootShare, meanPeriod, checksum, isTrue. */
public final class FiguresTest {
    private static final Class<ArithmeticException> NO_FIGURE = ArithmeticException.class;
    private static final String FULL = Check.FULL;
    private static final String LIKE = Check.LIKE;

    public static void main(String[] args) {
        Check.run(FiguresTest.class);
    }

    private static void share(String text, float want) {
        Check.due("of " + text, Check.with(text).rootShare(0), want);
    }

    @Says("41: how many signs the root has, divided by how many there are")
    static void rootShareOfSomeTexts() {
        share("a", 1f);
        share("ab", 1f);
        share("abab", 0.5f);
        share(FULL, 1f);
    }

    @Says("41: both converted to float.")
    static void rootShareAsAFloat() {
        share("aaa", 1f / 3f);
        share("abaabaaba", 3f / 9f);
        share("a".repeat(49), 1f / 49f);
        share(LIKE, 1f / 60f);
        share("abc".repeat(20), 3f / 60f);
    }

    @Says("41: Throws IndexOutOfBoundsException if there is no such slot")
    static void rootShareRefusesNoSlot() {
        Check.slots("a", Rootsong::rootShare);
    }

    @Says("41: Throws ArithmeticException if it is empty")
    static void rootShareRefusesAnEmptyText() {
        Check.refused("empty", NO_FIGURE, Check.texts("", "a"), song -> song.rootShare(0));
        Check.refused("the last slot", NO_FIGURE, Check.texts("a"), song -> song.rootShare(5));
    }

    private static void mean(String text, double want) {
        Check.due("of " + text, Check.with(text).meanPeriod(0), want);
    }

    @Says("42: Returns their sum divided by how many they are")
    static void meanPeriodOfSomeTexts() {
        mean("a", 1.0);
        mean("aa", 1.5);
        mean("abaab", 4.0);
        mean(FULL, 60.0);
        mean(LIKE, 30.5);
    }

    @Says("42: both converted to double.")
    static void meanPeriodAsADouble() {
        mean("abaaba", 14.0 / 3.0);
        mean("abcabca", 16.0 / 3.0);
        mean("aabaabaa", 6.0);
        mean("aabaabaaba", 28.0 / 4.0);
    }

    @Says("42: Throws IndexOutOfBoundsException if there is no such slot")
    static void meanPeriodRefusesNoSlot() {
        Check.slots("a", Rootsong::meanPeriod);
    }

    @Says("42: Throws ArithmeticException if it is empty")
    static void meanPeriodRefusesAnEmptyText() {
        Check.refused("empty", NO_FIGURE, Check.texts("", "a"), song -> song.meanPeriod(0));
        Check.refused("the last slot", NO_FIGURE, Check.texts("a"), song -> song.meanPeriod(5));
    }

    /** Three numbers a slot, told slot by slot. */
    private static long sum(long... numbers) {
        long sum = 7;
        for (long number : numbers) {
            sum = 31 * sum + number;
        }
        return sum;
    }

    @Says("43: Returns 7 at first")
    static void checksumOfANewObject() {
        Check.due("new", new Rootsong().checksum(), 7 * Check.power(31, 18));
        Rootsong song = Check.with("ab");
        song.erase(0);
        Check.due("erased", song.checksum(), 7 * Check.power(31, 18));
    }

    @Says("43: then for each slot 31 times itself plus how many signs it has")
    static void checksumOfEachSlot() {
        for (int slot = 0; slot < 6; slot++) {
            Rootsong song = new Rootsong();
            song.type(slot, 'a');
            song.type(slot, 'a');
            song.type(slot, 'b');
            long[] numbers = new long[18];
            numbers[3 * slot] = 3;
            numbers[3 * slot + 1] = "aab".hashCode();
            numbers[3 * slot + 2] = 1;
            Check.due("slot " + slot, song.checksum(), sum(numbers));
        }
        Rootsong song = Check.with("a", "aa", "ab", "aba", "abab", "");
        Check.due("all", song.checksum(), sum(1, 97, 1, 2, "aa".hashCode(), 2, 2, "ab".hashCode(),
                1, 3, "aba".hashCode(), 2, 4, "abab".hashCode(), 2, 0, 0, 0));
    }

    @Says("43: Returns 7 at first, then for each slot 31 times itself plus how many signs it has, "
            + "then likewise plus its number")
    static void checksumWithANumberBelowNone() {
        String round = "~~~~~~";
        Check.due("below 0", round.hashCode() < 0, true);
        Check.due("last slot", Check.with("", "", "", "", "", round).checksum(),
                sum(0, 0, 0, 0, 0, 0, 0, 0, 0, 0, 0, 0, 0, 0, 0, 6, round.hashCode(), 6));
    }

    @Says("43: Returns a sum over all, a long that goes round.")
    static void checksumGoesRound() {
        // 7 times 31 to the 18th is far above what a long holds.
        Check.due("full", Check.with(LIKE, FULL, LIKE, FULL, LIKE, FULL).checksum(),
                sum(60, LIKE.hashCode(), 60, 60, FULL.hashCode(), 1, 60, LIKE.hashCode(), 60,
                    60, FULL.hashCode(), 1, 60, LIKE.hashCode(), 60, 60, FULL.hashCode(), 1));
        Check.leaves("again", Check.with(FULL), song -> song.checksum(),
                sum(60, FULL.hashCode(), 1, 0, 0, 0, 0, 0, 0, 0, 0, 0, 0, 0, 0, 0, 0, 0), FULL);
    }

    private static void isTrue(String... texts) {
        Check.leaves("of " + String.join(", ", texts), Check.with(texts), Rootsong::isTrue, true,
                texts);
    }

    @Says("44: Returns true if it holds.")
    static void isTrueOfSomeTexts() {
        isTrue("ab", "abab", "", "ababab", "ba", "ab");
        isTrue("banana", "mississippi", "cbabcab", "aabaabab", "abcabcab", "abaab");
        isTrue("a", "aa", "aaa", "b", "bb", "ab");
    }

    @Says("44: Returns true if it holds.")
    static void isTrueOfEmptyTexts() {
        isTrue();
        isTrue("", "", "", "", "", "a");
        isTrue("a", "", "", "", "", "");
        isTrue("ab", "", "abab", "", "ba", "");
    }

    @Says("44: Returns true if it holds.")
    static void isTrueOfSixtySigns() {
        isTrue(FULL, LIKE, "ab".repeat(30), "ba".repeat(30), LIKE.substring(1) + "y", "x");
        isTrue(LIKE, LIKE, FULL, FULL, "ab".repeat(30), "abb".repeat(20));
    }

    @Says("44: Checks the theorem for all texts, and all pairs of them, as they are.")
    static void isTrueOfAllShortTexts() {
        for (int code = 0; code < 1024; code++) {
            StringBuilder signs = new StringBuilder();
            for (int place = 0; place < 10; place++) {
                signs.append((code >> place & 1) == 0 ? 'a' : 'b');
            }
            String text = signs.toString();
            isTrue(text, text.substring(0, 5), text.substring(5), text.substring(2, 4),
                    text.substring(0, code % 10), text.substring(code % 10));
        }
    }
}
