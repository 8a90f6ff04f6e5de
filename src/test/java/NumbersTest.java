/** Promises 20 to 22: hash, hashJoined, hashRepeated. */
public final class NumbersTest {
    private static final String LONG = "the quick brown fox jumps over the lazy dog ~ and once more!";

    public static void main(String[] args) {
        hash();
        hashJoined();
        hashRepeated();
        Check.end("NumbersTest");
    }

    private static void hash() {
        Rootsong song = Check.with("", "a", "ab", LONG, "~~~~~~~");
        Check.due("20: an empty one", song.hash(0), 0);
        Check.due("20: a sign", song.hash(1), 97);
        Check.due("20: two signs", song.hash(2), 97 * 31 + 98);
        Check.due("20: one that goes round", song.hash(3), LONG.hashCode());
        Check.due("20: just round", song.hash(4), "~~~~~~~".hashCode());
        for (int slot : Check.noSlots()) {
            Check.thrown("20: a " + slot, IndexOutOfBoundsException.class, () -> song.hash(slot));
        }
    }

    private static void hashJoined() {
        Rootsong song = Check.with("", "a", "bc", LONG);
        Check.due("21: two", song.hashJoined(1, 2), "abc".hashCode());
        Check.due("21: the other way round", song.hashJoined(2, 1), "bca".hashCode());
        Check.due("21: an empty one first", song.hashJoined(0, 2), "bc".hashCode());
        Check.due("21: an empty one behind", song.hashJoined(2, 0), "bc".hashCode());
        Check.due("21: both empty", song.hashJoined(0, 0), 0);
        Check.due("21: 120 signs", song.hashJoined(3, 3), (LONG + LONG).hashCode());
        for (int slot : Check.noSlots()) {
            Check.thrown("21: a " + slot, IndexOutOfBoundsException.class,
                    () -> song.hashJoined(slot, 1));
            Check.thrown("21: b " + slot, IndexOutOfBoundsException.class,
                    () -> song.hashJoined(1, slot));
        }
    }

    private static void hashRepeated() {
        Rootsong song = Check.with("", "a", "bc", LONG);
        Check.due("22: never", song.hashRepeated(2, 0), 0);
        Check.due("22: once", song.hashRepeated(2, 1), "bc".hashCode());
        Check.due("22: thrice", song.hashRepeated(2, 3), "bcbcbc".hashCode());
        Check.due("22: an empty one", song.hashRepeated(0, 1000), 0);
        Check.due("22: most often", song.hashRepeated(1, 1000), "a".repeat(1000).hashCode());
        Check.due("22: 60000 signs", song.hashRepeated(3, 1000), LONG.repeat(1000).hashCode());
        for (int times : new int[] {-1, 1001, Integer.MIN_VALUE, Integer.MAX_VALUE}) {
            Check.thrown("22: times " + times, IllegalArgumentException.class,
                    () -> song.hashRepeated(0, times));
        }
        for (int slot : Check.noSlots()) {
            Check.thrown("22: a " + slot, IndexOutOfBoundsException.class,
                    () -> song.hashRepeated(slot, -1));
        }
    }
}
