import java.util.NoSuchElementException;

/** Promises 23 to 26: periods, periodAt, border, root. */
public final class PeriodsTest {
    private static final Class<IndexOutOfBoundsException> OUTSIDE = IndexOutOfBoundsException.class;

    public static void main(String[] args) {
        periods();
        border();
        root();
        Check.end("PeriodsTest");
    }

    private static void periods() {
        periodsOf("");
        periodsOf("a", 1);
        periodsOf("ab", 2);
        periodsOf("aa", 1, 2);
        periodsOf("abaab", 3, 5);
        periodsOf("abaaba", 3, 5, 6);
        periodsOf("abcabca", 3, 6, 7);
        periodsOf("aabaabaa", 3, 6, 7, 8);
        Rootsong full = Check.with("x".repeat(60));
        Check.due("23: of 60 like signs", full.periods(0), 60);
        Check.due("24: the last one of 60", full.periodAt(0, 59), 60);
        for (int slot : Check.noSlots()) {
            Check.thrown("23: a " + slot, OUTSIDE, () -> full.periods(slot));
            Check.thrown("24: a " + slot, OUTSIDE, () -> full.periodAt(slot, -1));
        }
    }

    private static void periodsOf(String text, int... periods) {
        Rootsong song = Check.with(text);
        Check.due("23: of " + text, song.periods(0), periods.length);
        for (int index = 0; index < periods.length; index++) {
            Check.due("24: of " + text + " at " + index, song.periodAt(0, index), periods[index]);
        }
        int[] outside = {-1, periods.length, 60, Integer.MIN_VALUE, Integer.MAX_VALUE};
        for (int index : outside) {
            Check.thrown("24: of " + text + " at " + index, NoSuchElementException.class,
                    () -> song.periodAt(0, index));
        }
    }

    private static void border() {
        borderOf("a", "");
        borderOf("ab", "");
        borderOf("aa", "a");
        borderOf("abaab", "ab");
        borderOf("abab", "ab");
        borderOf("ababa", "aba");
        borderOf("x".repeat(60), "x".repeat(59));
        Rootsong song = Check.with("", "ab");
        Check.refused(song, "25: of an empty one", UnsupportedOperationException.class,
                () -> song.border(1, 0));
        for (int slot : Check.noSlots()) {
            Check.refused(song, "25: slot " + slot, OUTSIDE, () -> song.border(slot, 0));
            Check.refused(song, "25: a " + slot, OUTSIDE, () -> song.border(1, slot));
        }
    }

    private static void borderOf(String text, String want) {
        Rootsong song = Check.with(text, "else");
        Check.due("25: of " + text, song.border(1, 0), want.length());
        Check.due("25: the text of " + text, Check.all(song), text + "\n" + want + "\n\n\n\n\n");
        song.border(0, 0);
        Check.due("25: of itself " + text, Check.text(song, 0), want);
    }

    private static void root() {
        rootOf("a", "a", 1);
        rootOf("ab", "ab", 1);
        rootOf("aaa", "a", 3);
        rootOf("abab", "ab", 2);
        rootOf("ababa", "ababa", 1);
        rootOf("aabaab", "aab", 2);
        rootOf("abaaba".repeat(2), "aba", 4);
        rootOf("x".repeat(60), "x", 60);
        rootOf("x".repeat(59) + "y", "x".repeat(59) + "y", 1);
        Rootsong song = Check.with("", "ab");
        Check.refused(song, "26: of an empty one", UnsupportedOperationException.class,
                () -> song.root(1, 0));
        for (int slot : Check.noSlots()) {
            Check.refused(song, "26: slot " + slot, OUTSIDE, () -> song.root(slot, 0));
            Check.refused(song, "26: a " + slot, OUTSIDE, () -> song.root(1, slot));
        }
    }

    private static void rootOf(String text, String want, int times) {
        Rootsong song = Check.with(text, "else");
        Check.due("26: of " + text, song.root(1, 0), times);
        Check.due("26: the text of " + text, Check.all(song), text + "\n" + want + "\n\n\n\n\n");
        Check.due("26: of itself " + text, song.root(0, 0), times);
        Check.due("26: the text of itself " + text, Check.text(song, 0), want);
    }
}
