import java.util.NoSuchElementException;

/** Promises 27 to 33: turnTo, turnings, leastTurn, factors, factorAt, endAt, rankOf. */
public final class TurningTest {
    private static final Class<IndexOutOfBoundsException> OUTSIDE = IndexOutOfBoundsException.class;
    private static final String FULL = "x".repeat(60);

    public static void main(String[] args) {
        turnTo();
        turnings();
        factors();
        ends();
        slots();
        Check.end("TurningTest");
    }

    private static void turnTo() {
        turningTo("abcde", "cdeab", 2);
        turningTo("abcde", "abcde", 0);
        turningTo("abcde", "eabcd", 4);
        turningTo("abab", "baba", 1);
        turningTo("abab", "abab", 0);
        turningTo("abc", "acb", -1);
        turningTo("abc", "abcabc", -1);
        turningTo("abc", "ab", -1);
        turningTo("", "", 0);
        turningTo("", "a", -1);
        turningTo("a", "", -1);
        turningTo(FULL, FULL, 0);
        turningTo(FULL.substring(1) + "y", "y" + FULL.substring(1), 59);
    }

    private static void turningTo(String text, String other, int want) {
        Check.due("27: " + text + " to " + other, Check.with(text, other).turnTo(0, 1), want);
    }

    private static void turnings() {
        turned("", 1, 0);
        turned("a", 1, 0);
        turned("aaa", 1, 0);
        turned("ba", 2, 1);
        turned("baba", 2, 1);
        turned("banana", 6, 5);
        turned("abaaba", 3, 2);
        turned("cab", 3, 1);
        turned("abcaab", 6, 3);
        turned(FULL, 1, 0);
        turned(FULL.substring(1) + "a", 60, 59);
    }

    private static void turned(String text, int many, int least) {
        Rootsong song = Check.with(text);
        Check.due("28: of " + text, song.turnings(0), many);
        Check.due("29: of " + text, song.leastTurn(0), least);
    }

    private static void factors() {
        factorsOf("");
        factorsOf("a", 0);
        factorsOf("ab", 0);
        factorsOf("ba", 0, 1);
        factorsOf("aa", 0, 1);
        factorsOf("banana", 0, 1, 3, 5);
        factorsOf("abaab", 0, 2);
        factorsOf("ababb", 0);
        factorsOf("abab", 0, 2);
        factorsOf("ababa", 0, 2, 4);
        factorsOf("aabaabab", 0);
        factorsOf("cbabcab", 0, 1, 2, 5);
        factorsOf("abcabcab", 0, 3, 6);
        Rootsong full = Check.with(FULL);
        Check.due("30: of 60 like signs", full.factors(0), 60);
        Check.due("31: the last one of 60", full.factorAt(0, 59), 59);
    }

    private static void factorsOf(String text, int... places) {
        Rootsong song = Check.with(text);
        Check.due("30: of " + text, song.factors(0), places.length);
        for (int index = 0; index < places.length; index++) {
            Check.due("31: of " + text + " at " + index, song.factorAt(0, index), places[index]);
        }
        int[] outside = {-1, places.length, 60, Integer.MIN_VALUE, Integer.MAX_VALUE};
        for (int index : outside) {
            Check.thrown("31: of " + text + " at " + index, NoSuchElementException.class,
                    () -> song.factorAt(0, index));
        }
    }

    private static void ends() {
        endsOf("");
        endsOf("a", 0);
        endsOf("ab", 0, 1);
        endsOf("ba", 1, 0);
        endsOf("aaa", 2, 1, 0);
        endsOf("banana", 5, 3, 1, 0, 4, 2);
        endsOf("mississippi", 10, 7, 4, 1, 0, 9, 8, 6, 3, 5, 2);
        endsOf("~ ~ ", 3, 1, 2, 0);
        int[] falling = new int[60];
        for (int place = 0; place < 60; place++) {
            falling[place] = 59 - place;
        }
        endsOf(FULL, falling);
    }

    private static void endsOf(String text, int... places) {
        // Between two calls the ends of another text are put in order.
        Rootsong song = Check.with(text, "some other text");
        for (int index = 0; index < places.length; index++) {
            Check.due("32: of " + text + " at " + index, song.endAt(0, index), places[index]);
            song.unlikeParts(1);
            Check.due("33: of " + text + " at " + places[index], song.rankOf(0, places[index]),
                    index);
            song.unlikeParts(1);
        }
        int[] outside = {-1, places.length, 60, 61, Integer.MIN_VALUE, Integer.MAX_VALUE};
        for (int index : outside) {
            Check.thrown("32: of " + text + " at " + index, NoSuchElementException.class,
                    () -> song.endAt(0, index));
            Check.thrown("33: of " + text + " at " + index, OUTSIDE,
                    () -> song.rankOf(0, index));
        }
    }

    private static void slots() {
        Rootsong song = Check.with("ab", "b");
        for (int slot : Check.noSlots()) {
            Check.thrown("27: a " + slot, OUTSIDE, () -> song.turnTo(slot, 1));
            Check.thrown("27: b " + slot, OUTSIDE, () -> song.turnTo(0, slot));
            Check.thrown("28: a " + slot, OUTSIDE, () -> song.turnings(slot));
            Check.thrown("29: a " + slot, OUTSIDE, () -> song.leastTurn(slot));
            Check.thrown("30: a " + slot, OUTSIDE, () -> song.factors(slot));
            Check.thrown("31: a " + slot, OUTSIDE, () -> song.factorAt(slot, -1));
            Check.thrown("32: a " + slot, OUTSIDE, () -> song.endAt(slot, -1));
            Check.thrown("33: a " + slot, OUTSIDE, () -> song.rankOf(slot, 0));
        }
    }
}
