import java.util.NoSuchElementException;

/** Promises 27 to 33: turnTo, turnings, leastTurn, factors, factorAt, endAt, rankOf. */
public final class TurningTest {
    private static final Class<NoSuchElementException> NONE = NoSuchElementException.class;
    private static final String FULL = Check.FULL;
    private static final String LIKE = Check.LIKE;
    /** The places of 60 signs, from the last one on. */
    private static final int[] FALLING = falling();

    public static void main(String[] args) {
        Check.run(TurningTest.class);
    }

    private static void turningTo(String text, String other, int want) {
        Check.due(text + " to " + other, Check.with(text, other).turnTo(0, 1), want);
    }

    @Says("27: Returns the least number by which one text, turned, is another one.")
    static void turnToTheLeastNumber() {
        turningTo("abcde", "cdeab", 2);
        turningTo("cdeab", "abcde", 3);
        turningTo("abcde", "eabcd", 4);
        turningTo("abcde", "abcde", 0);
        turningTo("abab", "baba", 1);
        turningTo("abab", "abab", 0);
        turningTo("a", "a", 0);
        Check.due("itself", Check.with("abc").turnTo(0, 0), 0);
    }

    @Says("27: Returns the number, -1 without one.")
    static void turnToWithoutANumber() {
        turningTo("abc", "acb", -1);
        turningTo("abc", "abd", -1);
        turningTo("abc", "abcabc", -1);
        turningTo("abcabc", "abc", -1);
        turningTo("abc", "ab", -1);
        turningTo("aa", "aaa", -1);
        turningTo("aaa", "aa", -1);
    }

    @Says("27: Returns the number, -1 without one.")
    static void turnToWithEmptyTexts() {
        turningTo("", "", 0);
        turningTo("", "a", -1);
        turningTo("a", "", -1);
        turningTo(FULL, "", -1);
    }

    @Says("27: Returns the least number by which one text, turned, is another one.")
    static void turnToOfSixtySigns() {
        turningTo(LIKE, LIKE, 0);
        turningTo(FULL, FULL.substring(59) + FULL.substring(0, 59), 59);
        turningTo(FULL, FULL.substring(1) + "0", 1);
        turningTo(FULL, "~" + FULL.substring(1), -1);
    }

    @Says("27: Throws IndexOutOfBoundsException if there is no such slot, for any")
    static void turnToRefusesNoSlot() {
        Check.slots("a", (song, slot) -> song.turnTo(slot, 0));
        Check.slots("b", (song, slot) -> song.turnTo(0, slot));
    }

    private static void turned(String text, int many) {
        Check.due("of " + text, Check.with(text).turnings(0), many);
    }

    @Says("28: Returns how many unlike texts one is, turned by all numbers.")
    static void turningsOfSomeTexts() {
        turned("a", 1);
        turned("aaa", 1);
        turned("ba", 2);
        turned("baba", 2);
        turned("ababa", 5);
        turned("banana", 6);
        turned("abaaba", 3);
    }

    @Says("28: Returns how many, 1 for an empty one.")
    static void turningsOfAnEmptyOne() {
        turned("", 1);
    }

    @Says("28: Returns how many unlike texts one is, turned by all numbers.")
    static void turningsOfSixtySigns() {
        turned(LIKE, 1);
        turned(FULL, 60);
        turned(FULL.substring(0, 30).repeat(2), 30);
    }

    @Says("28: Throws IndexOutOfBoundsException if there is no such slot")
    static void turningsRefusesNoSlot() {
        Check.slots("a", Rootsong::turnings);
    }

    private static void least(String text, int by) {
        Check.due("of " + text, Check.with(text).leastTurn(0), by);
    }

    @Says("29: Returns the least number by which a text, turned, is least.")
    static void leastTurnOfSomeTexts() {
        least("a", 0);
        least("ab", 0);
        least("ba", 1);
        least("banana", 5);
        least("cab", 1);
        least("abcaab", 3);
        least("~ ~", 1);
    }

    @Says("29: Returns the least number by which a text, turned, is least.")
    static void leastTurnOfSeveralTheLeastNumber() {
        least("aaa", 0);
        least("abab", 0);
        least("baba", 1);
        least("abaaba", 2);
    }

    @Says("29: Returns the number, 0 for an empty one.")
    static void leastTurnOfAnEmptyOne() {
        least("", 0);
    }

    @Says("29: Returns the least number by which a text, turned, is least.")
    static void leastTurnOfSixtySigns() {
        least(LIKE, 0);
        least(FULL, 0);
        least(LIKE.substring(1) + "a", 59);
        least("b" + LIKE.substring(2) + "a", 59);
    }

    @Says("29: Throws IndexOutOfBoundsException if there is no such slot")
    static void leastTurnRefusesNoSlot() {
        Check.slots("a", Rootsong::leastTurn);
    }

    private static void factorsOf(String text, int... places) {
        Rootsong song = Check.with(text);
        Check.due("of " + text, song.factors(0), places.length);
        for (int index = 0; index < places.length; index++) {
            Check.due("of " + text + " at " + index, song.factorAt(0, index), places[index]);
        }
    }

    @Says("30: Returns how many factors a text has.")
    static void factorsOfSomeTexts() {
        factorsOf("a", 0);
        factorsOf("ab", 0);
        factorsOf("ba", 0, 1);
        factorsOf("aa", 0, 1);
        factorsOf("banana", 0, 1, 3, 5);
        factorsOf("abaab", 0, 2);
        factorsOf("ababb", 0);
        factorsOf("abab", 0, 2);
        factorsOf("ababa", 0, 2, 4);
        factorsOf("aabaabab", 0);
        factorsOf("cbabcab", 0, 1, 2, 5);
        factorsOf("abcabcab", 0, 3, 6);
    }

    @Says("30: Returns how many, 0 for an empty one.")
    static void factorsOfAnEmptyOne() {
        Check.due("empty", Check.with("", "a").factors(0), 0);
        Rootsong song = Check.with("ba");
        song.erase(0);
        Check.due("erased", song.factors(0), 0);
    }

    @Says("30: Returns how many factors a text has.")
    static void factorsOfSixtySigns() {
        int[] each = new int[60];
        for (int place = 0; place < 60; place++) {
            each[place] = place;
        }
        factorsOf(LIKE, each);
        factorsOf("ab".repeat(29) + "b~", 0);
        factorsOf("a" + LIKE.substring(1), 0);
        factorsOf("b" + LIKE.substring(2) + "a", 0, 59);
    }

    @Says("30: Throws IndexOutOfBoundsException if there is no such slot")
    static void factorsRefusesNoSlot() {
        Check.slots("a", Rootsong::factors);
    }

    @Says("31: Returns at which place a factor of a text begins.")
    static void factorAtTheFirstAndTheLast() {
        Rootsong song = Check.with("banana", LIKE, "q");
        Check.due("the first", song.factorAt(0, 0), 0);
        Check.due("the last", song.factorAt(0, 3), 5);
        Check.due("the first of 60", song.factorAt(1, 0), 0);
        Check.due("the last of 60", song.factorAt(1, 59), 59);
        Check.due("the one of one sign", song.factorAt(2, 0), 0);
    }

    @Says("31: Throws IndexOutOfBoundsException if there is no such slot")
    static void factorAtRefusesNoSlot() {
        Check.slots("a", (song, slot) -> song.factorAt(slot, 0));
    }

    @Says("31: Throws NoSuchElementException if there is none such")
    static void factorAtRefusesNoIndex() {
        Check.refusedEach("index", NONE, Check.texts("banana"),
                (song, index) -> song.factorAt(0, index),
                -1, -2, 4, 5, 6, 60, Check.LOWEST, Check.HIGHEST);
        Check.refusedEach("of an empty one", NONE, Check.texts("", "a"),
                (song, index) -> song.factorAt(0, index), -1, 0, 1);
        Check.refusedEach("of 60", NONE, Check.texts(LIKE),
                (song, index) -> song.factorAt(0, index), -1, 60, 61);
        Check.refusedEach("of one", NONE, Check.texts("abb"),
                (song, index) -> song.factorAt(0, index), 1, 2, 3);
    }

    /** Between two calls the ends of another text are put in order. */
    private static void endsOf(String text, int... places) {
        Rootsong song = Check.with(text, "some other text");
        for (int index = 0; index < places.length; index++) {
            Check.due("of " + text + " at " + index, song.endAt(0, index), places[index]);
            song.unlikeParts(1);
        }
    }

    @Says("32: Returns an end of a text, not empty, by their order.")
    static void endAtOfSomeTexts() {
        endsOf("a", 0);
        endsOf("ab", 0, 1);
        endsOf("ba", 1, 0);
        endsOf("aaa", 2, 1, 0);
        endsOf("banana", 5, 3, 1, 0, 4, 2);
        endsOf("mississippi", 10, 7, 4, 1, 0, 9, 8, 6, 3, 5, 2);
        endsOf("~ ~ ", 3, 1, 2, 0);
    }

    @Says("32: Returns an end of a text, not empty, by their order.")
    static void endAtOfSixtySigns() {
        endsOf(LIKE, FALLING);
        int[] places = new int[60];
        for (int index = 0; index < 60; index++) {
            // Of these signs the digits have the lowest codes, and then the capital letters.
            places[index] = index < 10 ? index : index < 34 ? index + 26 : index - 24;
        }
        endsOf(FULL, places);
    }

    @Says("32: Throws IndexOutOfBoundsException if there is no such slot")
    static void endAtRefusesNoSlot() {
        Check.slots("a", (song, slot) -> song.endAt(slot, 0));
    }

    @Says("32: Throws NoSuchElementException if there is none such")
    static void endAtRefusesNoIndex() {
        Check.refusedEach("index", NONE, Check.texts("banana"),
                (song, index) -> song.endAt(0, index),
                -1, -2, 6, 7, 59, 60, 61, Check.LOWEST, Check.HIGHEST);
        Check.refusedEach("of an empty one", NONE, Check.texts("", "a"),
                (song, index) -> song.endAt(0, index), -1, 0, 1);
        Check.refusedEach("of 60", NONE, Check.texts(FULL),
                (song, index) -> song.endAt(0, index), -1, 60, 61);
    }

    /** The numbers that are due for the places from 0 on. */
    private static void ranksOf(String text, int... ranks) {
        Rootsong song = Check.with(text, "some other text");
        for (int place = 0; place < ranks.length; place++) {
            Check.due("of " + text + " at " + place, song.rankOf(0, place), ranks[place]);
            song.unlikeParts(1);
        }
    }

    @Says("33: Returns how many ends of a text, not empty, are less than one.")
    static void rankOfSomeTexts() {
        ranksOf("a", 0);
        ranksOf("ab", 0, 1);
        ranksOf("ba", 1, 0);
        ranksOf("aaa", 2, 1, 0);
        ranksOf("banana", 3, 2, 5, 1, 4, 0);
        ranksOf("~ ~ ", 3, 1, 2, 0);
    }

    @Says("33: Returns how many ends of a text, not empty, are less than one.")
    static void rankOfSixtySigns() {
        ranksOf(LIKE, FALLING);
        ranksOf(LIKE.substring(1) + "y", rising());
    }

    private static int[] falling() {
        int[] places = new int[60];
        for (int index = 0; index < 60; index++) {
            places[index] = 59 - index;
        }
        return places;
    }

    private static int[] rising() {
        int[] ranks = new int[60];
        for (int place = 0; place < 60; place++) {
            ranks[place] = place;
        }
        return ranks;
    }

    @Says("33: Throws IndexOutOfBoundsException if there is no such slot")
    static void rankOfRefusesNoSlot() {
        Check.slots("a", (song, slot) -> song.rankOf(slot, 0));
    }

    @Says("33: Throws IndexOutOfBoundsException if there is no such slot, or place")
    static void rankOfRefusesNoPlace() {
        Check.refusedEach("place", Check.OUTSIDE, Check.texts("banana"),
                (song, place) -> song.rankOf(0, place),
                -1, 6, 7, 59, 60, Check.LOWEST, Check.HIGHEST);
        Check.refusedEach("of an empty one", Check.OUTSIDE, Check.texts("", "a"),
                (song, place) -> song.rankOf(0, place), -1, 0, 1);
        Check.refusedEach("of 60", Check.OUTSIDE, Check.texts(FULL),
                (song, place) -> song.rankOf(0, place), -1, 60, 61);
    }
}
