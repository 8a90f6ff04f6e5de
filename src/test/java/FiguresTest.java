/** Promises 41 to 44: rootShare, meanPeriod, checksum, isTrue. */
public final class FiguresTest {
    private static final Class<IndexOutOfBoundsException> OUTSIDE = IndexOutOfBoundsException.class;

    public static void main(String[] args) {
        rootShare();
        meanPeriod();
        checksum();
        isTrue();
        Check.end("FiguresTest");
    }

    private static void rootShare() {
        Rootsong song = Check.with("abab", "aaa", "ab", "x".repeat(60), "abaabaaba");
        Check.due("41: a half", song.rootShare(0), 0.5f);
        Check.due("41: a third", song.rootShare(1), 1f / 3f);
        Check.due("41: all", song.rootShare(2), 1f);
        Check.due("41: a sixtieth", song.rootShare(3), 1f / 60f);
        Check.due("41: three of nine", song.rootShare(4), 3f / 9f);
        Check.thrown("41: of an empty one", ArithmeticException.class, () -> song.rootShare(5));
        for (int slot : Check.noSlots()) {
            Check.thrown("41: a " + slot, OUTSIDE, () -> song.rootShare(slot));
        }
    }

    private static void meanPeriod() {
        Rootsong song = Check.with("abaab", "abaaba", "a", "x".repeat(60));
        Check.due("42: of two", song.meanPeriod(0), 4.0);
        Check.due("42: of three", song.meanPeriod(1), 14.0 / 3.0);
        Check.due("42: of one", song.meanPeriod(2), 1.0);
        Check.due("42: of sixty", song.meanPeriod(3), 30.5);
        Check.thrown("42: of an empty one", ArithmeticException.class, () -> song.meanPeriod(5));
        for (int slot : Check.noSlots()) {
            Check.thrown("42: a " + slot, OUTSIDE, () -> song.meanPeriod(slot));
        }
    }

    private static void checksum() {
        long sum = 7;
        for (int times = 0; times < 18; times++) {
            sum *= 31;
        }
        Check.due("43: of a new object", new Rootsong().checksum(), sum);
        String[] texts = {"abaab", "~~~~~~~", "", "the quick brown fox", "x".repeat(60), "q"};
        Model model = new Model();
        System.arraycopy(texts, 0, model.texts, 0, texts.length);
        Rootsong song = Check.with(texts);
        Check.due("43: of six", song.checksum(), model.checksum());
        Check.due("43: again", song.checksum(), model.checksum());
        Rootsong one = Check.with("", "", "", "", "", "~~~~~~~");
        long nearly = 7;
        for (int times = 0; times < 15; times++) {
            nearly *= 31;
        }
        nearly = ((nearly * 31 + 7) * 31 + "~~~~~~~".hashCode()) * 31 + 7;
        Check.due("43: of one whose number is below 0", one.checksum(), nearly);
    }

    private static void isTrue() {
        Check.due("44: of a new object", new Rootsong().isTrue(), true);
        Check.due("44: of repeats", Check.with("ab", "abab", "", "ababab", "ba", "ab").isTrue(),
                true);
        Check.due("44: of factors", Check.with("banana", "mississippi", "cbabcab", "aabaabab",
                "abcabcab", "x".repeat(60)).isTrue(), true);
    }
}
