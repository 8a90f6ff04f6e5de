import java.util.NoSuchElementException;

/** Promises 23 to 26: periods, periodAt, border, root. */
public final class PeriodsTest {
    private static final Class<UnsupportedOperationException> EMPTY =
            UnsupportedOperationException.class;
    private static final String FULL = Check.FULL;
    private static final String LIKE = Check.LIKE;

    public static void main(String[] args) {
        Check.run(PeriodsTest.class);
    }

    private static void periodsOf(String text, int... periods) {
        Rootsong song = Check.with(text);
        Check.due("of " + text, song.periods(0), periods.length);
        for (int index = 0; index < periods.length; index++) {
            Check.due("of " + text + " at " + index, song.periodAt(0, index), periods[index]);
        }
    }

    @Says("23: Returns how many periods a text has.")
    static void periodsOfSomeTexts() {
        periodsOf("a", 1);
        periodsOf("ab", 2);
        periodsOf("aa", 1, 2);
        periodsOf("aba", 2, 3);
        periodsOf("abaab", 3, 5);
        periodsOf("abaaba", 3, 5, 6);
        periodsOf("abcabca", 3, 6, 7);
        periodsOf("aabaabaa", 3, 6, 7, 8);
    }

    @Says("23: Returns how many, 0 for an empty one.")
    static void periodsOfAnEmptyOne() {
        Check.due("empty", Check.with("", "a").periods(0), 0);
        Rootsong song = Check.with("aa");
        song.erase(0);
        Check.due("erased", song.periods(0), 0);
    }

    @Says("23: Returns how many periods a text has.")
    static void periodsOfSixtySigns() {
        int[] all = new int[60];
        for (int index = 0; index < 60; index++) {
            all[index] = index + 1;
        }
        periodsOf(LIKE, all);
        periodsOf(FULL, 60);
        periodsOf(FULL.substring(0, 59) + "0", 59, 60);
        periodsOf("ab".repeat(15) + FULL.substring(0, 30), 60);
    }

    @Says("23: Throws IndexOutOfBoundsException if there is no such slot")
    static void periodsRefusesNoSlot() {
        Check.slots("a", Rootsong::periods);
    }

    @Says("24: its place among them, from 0, the least one first")
    static void periodAtTheFirstAndTheLast() {
        Rootsong song = Check.with("abaaba", LIKE, "q");
        Check.due("the least", song.periodAt(0, 0), 3);
        Check.due("the next", song.periodAt(0, 1), 5);
        Check.due("the greatest", song.periodAt(0, 2), 6);
        Check.due("the least of 60", song.periodAt(1, 0), 1);
        Check.due("the greatest of 60", song.periodAt(1, 59), 60);
        Check.due("the one of one sign", song.periodAt(2, 0), 1);
    }

    @Says("24: Throws IndexOutOfBoundsException if there is no such slot")
    static void periodAtRefusesNoSlot() {
        Check.slots("a", (song, slot) -> song.periodAt(slot, 0));
    }

    @Says("24: Throws NoSuchElementException if there is none such")
    static void periodAtRefusesNoIndex() {
        Check.refusedEach("index", NoSuchElementException.class, Check.texts("abaaba"),
                (song, index) -> song.periodAt(0, index),
                -1, -2, 3, 4, 6, 60, Check.LOWEST, Check.HIGHEST);
        Check.refusedEach("of an empty one", NoSuchElementException.class, Check.texts("", "a"),
                (song, index) -> song.periodAt(0, index), -1, 0, 1);
        Check.refusedEach("of 60", NoSuchElementException.class, Check.texts(LIKE),
                (song, index) -> song.periodAt(0, index), -1, 60, 61);
        Check.refusedEach("of a text with one", NoSuchElementException.class, Check.texts(FULL),
                (song, index) -> song.periodAt(0, index), 1, 59);
    }

    private static void borderOf(String text, String want) {
        Check.leaves("of " + text, Check.with(text, "old"), song -> song.border(1, 0),
                want.length(), text, want);
        Check.leaves("of itself, " + text, Check.with(text, "old"), song -> song.border(0, 0),
                want.length(), want, "old");
    }

    @Says("25: Lets a slot become the border of a text.")
    static void borderOfSomeTexts() {
        borderOf("aa", "a");
        borderOf("aba", "a");
        borderOf("abaab", "ab");
        borderOf("abab", "ab");
        borderOf("ababa", "aba");
        borderOf("abcabxabcab", "abcab");
    }

    @Says("25: Returns how many signs it has then.")
    static void borderThatIsEmpty() {
        borderOf("a", "");
        borderOf("ab", "");
        borderOf("aab", "");
        borderOf(FULL, "");
    }

    @Says("25: Returns how many signs it has then.")
    static void borderOfSixtySigns() {
        borderOf(LIKE, LIKE.substring(1));
        borderOf(FULL.substring(0, 59) + "0", "0");
        borderOf(FULL.substring(0, 30).repeat(2), FULL.substring(0, 30));
    }

    @Says("25: Throws IndexOutOfBoundsException if there is no such slot, for any")
    static void borderRefusesNoSlot() {
        Check.slots("slot", (song, slot) -> song.border(slot, 0));
        Check.slots("a", (song, slot) -> song.border(0, slot));
    }

    @Says("25: Throws UnsupportedOperationException if the text is empty")
    static void borderRefusesAnEmptyText() {
        Check.refused("into another", EMPTY, Check.texts("", "old"), song -> song.border(1, 0));
        Check.refused("into itself", EMPTY, Check.texts("", "old"), song -> song.border(0, 0));
        Check.leaves("into an empty one", Check.with("", "aba"), song -> song.border(0, 1), 1, "a",
                "aba");
    }

    private static void rootOf(String text, String want, int times) {
        Check.leaves("of " + text, Check.with(text, "old"), song -> song.root(1, 0), times, text,
                want);
        Check.leaves("of itself, " + text, Check.with(text, "old"), song -> song.root(0, 0), times,
                want, "old");
    }

    @Says("26: Lets a slot become the root of a text.")
    static void rootOfSomeTexts() {
        rootOf("aaa", "a", 3);
        rootOf("abab", "ab", 2);
        rootOf("aabaab", "aab", 2);
        rootOf("abaabaabaaba", "aba", 4);
        rootOf("aabaaabaaabaaaba", "aaba", 4);
    }

    @Says("26: Returns how often the root stands there, one behind the other.")
    static void rootThatIsTheText() {
        rootOf("a", "a", 1);
        rootOf("ab", "ab", 1);
        rootOf("aba", "aba", 1);
        rootOf("ababa", "ababa", 1);
        rootOf("abaabab", "abaabab", 1);
        rootOf(FULL, FULL, 1);
        rootOf(LIKE.substring(1) + "y", LIKE.substring(1) + "y", 1);
    }

    @Says("26: Returns how often the root stands there, one behind the other.")
    static void rootOfSixtySigns() {
        rootOf(LIKE, "x", 60);
        rootOf(FULL.substring(0, 30).repeat(2), FULL.substring(0, 30), 2);
        rootOf("abc".repeat(20), "abc", 20);
    }

    @Says("26: Throws IndexOutOfBoundsException if there is no such slot, for any")
    static void rootRefusesNoSlot() {
        Check.slots("slot", (song, slot) -> song.root(slot, 0));
        Check.slots("a", (song, slot) -> song.root(0, slot));
    }

    @Says("26: Throws UnsupportedOperationException if the text is empty")
    static void rootRefusesAnEmptyText() {
        Check.refused("into another", EMPTY, Check.texts("", "old"), song -> song.root(1, 0));
        Check.refused("into itself", EMPTY, Check.texts("", "old"), song -> song.root(0, 0));
        Check.leaves("into an empty one", Check.with("", "aa"), song -> song.root(0, 1), 2, "a",
                "aa");
    }
}
