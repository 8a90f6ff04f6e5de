/** Promises 34 to 36: unlikeParts, twice, mirrors. */
public final class PartsTest {
    private static final String FULL = "x".repeat(60);
    private static final String UNLIKE =
            "0123456789abcdefghijklmnopqrstuvwxyzABCDEFGHIJKLMNOPQRSTUVWX";

    public static void main(String[] args) {
        partsOf("", 0, 0, "");
        partsOf("a", 1, 1, "");
        partsOf("aa", 2, 2, "a");
        partsOf("ab", 3, 2, "");
        partsOf("aba", 5, 3, "a");
        partsOf("banana", 15, 6, "ana");
        partsOf("abcabc", 15, 3, "abc");
        partsOf("xyabxyabab", 42, 6, "xyab");
        partsOf("dcdcxabab", 39, 9, "ab");
        partsOf("abaaba", 14, 6, "aba");
        partsOf(FULL, 60, 60, FULL.substring(1));
        partsOf(UNLIKE, 1830, 60, "");
        slots();
        Check.end("PartsTest");
    }

    private static void partsOf(String text, int unlike, int mirrors, String twice) {
        Model model = new Model();
        model.texts[0] = text;
        Check.due("34: the test's own number for " + text, unlike, model.unlikeParts(0));
        Check.due("36: the test's own number for " + text, mirrors, model.mirrors(0));
        Check.due("34: of " + text, behindAnother(text).unlikeParts(0), unlike);
        Check.due("36: of " + text, behindAnother(text).mirrors(0), mirrors);
        Rootsong song = behindAnother(text);
        Check.due("35: of " + text, song.twice(1, 0), twice.length());
        Check.due("35: the text of " + text, Check.all(song), text + "\n" + twice + "\n\n\n\n\n");
        song.twice(0, 0);
        Check.due("35: of itself " + text, Check.text(song, 0), twice);
    }

    /** An object that has put the ends of another text in order just before. */
    private static Rootsong behindAnother(String text) {
        Rootsong song = Check.with(text, "mississippi".repeat(5));
        song.endAt(1, 0);
        return song;
    }

    private static void slots() {
        Class<IndexOutOfBoundsException> outside = IndexOutOfBoundsException.class;
        Rootsong song = Check.with("ab", "b");
        for (int slot : Check.noSlots()) {
            Check.thrown("34: a " + slot, outside, () -> song.unlikeParts(slot));
            Check.refused(song, "35: slot " + slot, outside, () -> song.twice(slot, 0));
            Check.refused(song, "35: a " + slot, outside, () -> song.twice(0, slot));
            Check.thrown("36: a " + slot, outside, () -> song.mirrors(slot));
        }
    }
}
