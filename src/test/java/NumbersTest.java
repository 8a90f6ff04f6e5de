/** Promises 20 to 22: hash, hashJoined, hashRepeated. */
public final class NumbersTest {
    private static final String LONG =
            "the quick brown fox jumps over the lazy dog ~ and once more!";

    public static void main(String[] args) {
        Check.run(NumbersTest.class);
    }

    private static int hash(String text) {
        return Check.with(text).hash(0);
    }

    @Says("20: Returns the number of a text: 0 at first, then for each sign 31 times itself")
    static void hashOfFewSigns() {
        Check.due("none", hash(""), 0);
        Check.due("one", hash("a"), 97);
        Check.due("the lowest one", hash(" "), 32);
        Check.due("two", hash("ab"), 97 * 31 + 98);
        Check.due("the other way round", hash("ba"), 98 * 31 + 97);
    }

    @Says("20: an int that goes round.")
    static void hashGoesRound() {
        // Six of the highest signs are 3739663296 and more than an int, once less than none.
        Check.due("below 0", hash("~~~~~~") < 0, true);
        Check.due("six signs", hash("~~~~~~"), (int) (126L * (Check.power(31, 6) - 1) / 30));
        Check.due("seven signs", hash("~~~~~~~"), (int) (126L * (Check.power(31, 7) - 1) / 30));
        Check.due("60 signs", hash(LONG), LONG.hashCode());
        Check.due("60 of the highest", hash("~".repeat(60)), "~".repeat(60).hashCode());
    }

    @Says("20: Throws IndexOutOfBoundsException if there is no such slot")
    static void hashRefusesNoSlot() {
        Check.slots("a", Rootsong::hash);
    }

    private static void joined(String text, String other) {
        Check.due(text + " and " + other, Check.with(text, other).hashJoined(0, 1),
                (text + other).hashCode());
        Check.due(other + " and " + text, Check.with(text, other).hashJoined(1, 0),
                (other + text).hashCode());
    }

    @Says("21: Returns the number of two joined texts")
    static void hashJoinedOfFewSigns() {
        joined("a", "bc");
        joined("", "bc");
        joined("", "");
        joined("~~~", "~~~~");
        Check.due("itself", Check.with("ab").hashJoined(0, 0), "abab".hashCode());
    }

    @Says("21: however many signs they have.")
    static void hashJoinedOfMoreThanSixty() {
        joined(LONG, "y");
        joined(LONG, "");
        joined(LONG, Check.FULL);
        Check.leaves("itself", Check.with(LONG), song -> song.hashJoined(0, 0),
                (LONG + LONG).hashCode(), LONG);
    }

    @Says("21: Throws IndexOutOfBoundsException if there is no such slot, for any")
    static void hashJoinedRefusesNoSlot() {
        Check.slots("a", (song, slot) -> song.hashJoined(slot, 0));
        Check.slots("b", (song, slot) -> song.hashJoined(0, slot));
    }

    private static void repeated(String text, int times) {
        Check.due(text + " times " + times, Check.with(text).hashRepeated(0, times),
                text.repeat(times).hashCode());
    }

    @Says("22: Returns the number of a text so often, one behind the other")
    static void hashRepeatedAFewTimes() {
        repeated("bc", 1);
        repeated("bc", 2);
        repeated("bc", 3);
        repeated("~~~~~~", 2);
    }

    @Says("22: how often, 0 to 1000")
    static void hashRepeatedNeverToMostOften() {
        repeated("bc", 0);
        repeated("", 0);
        repeated(LONG, 0);
        repeated("", 1000);
        repeated("a", 999);
        repeated("a", 1000);
    }

    @Says("22: however many signs that has.")
    static void hashRepeatedOfMoreThanSixty() {
        repeated("a", 61);
        repeated(LONG, 2);
        repeated(LONG, 1000);
        Check.leaves("60000 signs", Check.with(LONG), song -> song.hashRepeated(0, 1000),
                LONG.repeat(1000).hashCode(), LONG);
    }

    @Says("22: Throws IndexOutOfBoundsException if there is no such slot")
    static void hashRepeatedRefusesNoSlot() {
        Check.slots("a", (song, slot) -> song.hashRepeated(slot, 2));
    }

    @Says("22: Throws IllegalArgumentException if it is out of range")
    static void hashRepeatedRefusesOtherTimes() {
        for (String text : new String[] {"", "ab", LONG}) {
            Check.refusedEach(text + " times", IllegalArgumentException.class, Check.texts(text),
                    (song, times) -> song.hashRepeated(0, times),
                    -1, -2, 1001, 1002, Check.LOWEST, Check.HIGHEST);
        }
    }
}
