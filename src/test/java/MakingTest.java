/** Promises 7 to 12: join, repeat, part, turn, back, put. */
public final class MakingTest {
    private static final Class<IllegalArgumentException> WRONG = IllegalArgumentException.class;
    private static final Class<IllegalStateException> NO_ROOM = IllegalStateException.class;
    private static final Class<UnsupportedOperationException> EMPTY =
            UnsupportedOperationException.class;
    private static final String FULL = Check.FULL;
    private static final String HALF = FULL.substring(0, 30);

    public static void main(String[] args) {
        Check.run(MakingTest.class);
    }

    @Says("7: Lets a slot become two texts, one behind the other.")
    static void joinPutsOneBehindTheOther() {
        Check.leaves("into a third", Check.with("ab", "cde", "old"), song -> song.join(2, 0, 1), 5,
                "ab", "cde", "abcde");
        Check.leaves("the other way round", Check.with("ab", "cde", "old"),
                song -> song.join(2, 1, 0), 5, "ab", "cde", "cdeab");
    }

    @Says("7: Lets a slot become two texts, one behind the other.")
    static void joinIntoOneOfThem() {
        Check.leaves("into the first", Check.with("ab", "cde"), song -> song.join(0, 0, 1), 5,
                "abcde", "cde");
        Check.leaves("into the second", Check.with("ab", "cde"), song -> song.join(1, 0, 1), 5,
                "ab", "abcde");
        Check.leaves("itself twice", Check.with("ab", "cde"), song -> song.join(1, 1, 1), 6, "ab",
                "cdecde");
    }

    @Says("7: Returns how many signs it has then.")
    static void joinEmptyTexts() {
        Check.leaves("empty behind", Check.with("ab", "", "old"), song -> song.join(2, 0, 1), 2,
                "ab", "", "ab");
        Check.leaves("empty ahead", Check.with("ab", "", "old"), song -> song.join(2, 1, 0), 2,
                "ab", "", "ab");
        Check.leaves("both empty", Check.with("ab", "", "old"), song -> song.join(2, 1, 3), 0,
                "ab", "", "");
    }

    @Says("7: Throws IndexOutOfBoundsException if there is no such slot, for any")
    static void joinRefusesNoSlot() {
        Check.slots("slot", (song, slot) -> song.join(slot, 0, 1));
        Check.slots("a", (song, slot) -> song.join(0, slot, 1));
        Check.slots("b", (song, slot) -> song.join(0, 1, slot));
    }

    @Says("7: Throws IllegalStateException if it would have more than 60 signs")
    static void joinMakesSixtySigns() {
        Check.leaves("two halves", Check.with(HALF, "old"), song -> song.join(1, 0, 0), 60, HALF,
                HALF + HALF);
        Check.leaves("60 and none", Check.with(FULL, ""), song -> song.join(2, 0, 1), 60, FULL, "",
                FULL);
        Check.leaves("none and 60", Check.with(FULL, ""), song -> song.join(2, 1, 0), 60, FULL, "",
                FULL);
        Check.leaves("59 and 1", Check.with(FULL.substring(1), "y"), song -> song.join(1, 0, 1),
                60, FULL.substring(1), FULL.substring(1) + "y");
        Check.leaves("into a full slot", Check.with(FULL, "ab"), song -> song.join(0, 1, 1), 4,
                "abab", "ab");
    }

    @Says("7: Throws IllegalStateException if it would have more than 60 signs")
    static void joinRefusesOneMore() {
        String[] texts = {HALF, HALF + "y", FULL, "y", "old"};
        Check.refused("30 and 31", NO_ROOM, texts, song -> song.join(4, 0, 1));
        Check.refused("31 and 30", NO_ROOM, texts, song -> song.join(0, 1, 0));
        Check.refused("60 and 1", NO_ROOM, texts, song -> song.join(2, 2, 3));
        Check.refused("1 and 60", NO_ROOM, texts, song -> song.join(3, 3, 2));
        Check.refused("60 and 60", NO_ROOM, texts, song -> song.join(5, 2, 2));
    }

    @Says("8: Lets a slot become a text so often, one behind the other")
    static void repeatPutsOneBehindTheOther() {
        Check.leaves("into another", Check.with("ab", "old"), song -> song.repeat(1, 0, 3), 6, "ab",
                "ababab");
        Check.leaves("into itself", Check.with("ab"), song -> song.repeat(0, 0, 2), 4, "abab");
        Check.leaves("once", Check.with("abc", "old"), song -> song.repeat(1, 0, 1), 3, "abc",
                "abc");
    }

    @Says("8: an empty one stays empty, however often")
    static void repeatOfAnEmptyOne() {
        for (int times : new int[] {0, 1, 2, 60, 61, 1000000, Check.HIGHEST - 1, Check.HIGHEST}) {
            Check.leaves("times " + times, Check.with("", "old"), song -> song.repeat(1, 0, times),
                    0, "", "");
        }
    }

    @Says("8: how often, from 0 on")
    static void repeatNever() {
        Check.leaves("never", Check.with("ab", "old"), song -> song.repeat(1, 0, 0), 0, "ab", "");
        Check.leaves("itself never", Check.with(FULL), song -> song.repeat(0, 0, 0), 0, "");
    }

    @Says("8: Throws IndexOutOfBoundsException if there is no such slot, for any")
    static void repeatRefusesNoSlot() {
        Check.slots("slot", (song, slot) -> song.repeat(slot, 0, 2));
        Check.slots("a", (song, slot) -> song.repeat(0, slot, 2));
    }

    @Says("8: Throws IllegalArgumentException if it is below 0")
    static void repeatRefusesBelowNone() {
        Check.refusedEach("times", WRONG, Check.texts("ab", "old"),
                (song, times) -> song.repeat(1, 0, times), -1, -2, -60, Check.LOWEST);
        Check.refusedEach("an empty one, times", WRONG, Check.texts("", "old"),
                (song, times) -> song.repeat(1, 0, times), -1, Check.LOWEST);
        Check.refusedEach("a full one, times", WRONG, Check.texts(FULL, "old"),
                (song, times) -> song.repeat(1, 0, times), -1, Check.LOWEST);
    }

    @Says("8: Throws IllegalStateException if it would have more than 60 signs")
    static void repeatMakesSixtySigns() {
        Check.leaves("1 sign", Check.with("x", "old"), song -> song.repeat(1, 0, 60), 60, "x",
                Check.LIKE);
        Check.leaves("30 signs", Check.with(HALF), song -> song.repeat(0, 0, 2), 60, HALF + HALF);
        Check.leaves("60 signs", Check.with(FULL, "old"), song -> song.repeat(1, 0, 1), 60, FULL,
                FULL);
        Check.leaves("7 signs", Check.with("abcdefg", "old"), song -> song.repeat(1, 0, 8), 56,
                "abcdefg", "abcdefg".repeat(8));
    }

    @Says("8: Throws IllegalStateException if it would have more than 60 signs")
    static void repeatRefusesOneMore() {
        String[] texts = {"x", HALF, FULL, "abcdefg", "1234", "old"};
        Check.refusedEach("1 sign, times", NO_ROOM, texts,
                (song, times) -> song.repeat(5, 0, times), 61, 62, 1000, Check.HIGHEST);
        Check.refusedEach("30 signs, times", NO_ROOM, texts,
                (song, times) -> song.repeat(1, 1, times), 3, Check.HIGHEST);
        Check.refusedEach("60 signs, times", NO_ROOM, texts,
                (song, times) -> song.repeat(2, 2, times), 2, Check.HIGHEST);
        Check.refusedEach("7 signs, times", NO_ROOM, texts,
                (song, times) -> song.repeat(5, 3, times), 9);
    }

    @Says("8: Throws IllegalStateException if it would have more than 60 signs")
    static void repeatRefusesWhatGoesRoundAsAnInt() {
        String[] texts = {"1234", FULL, "old"};
        // 4 times 2 to the 30th is 0 as an int, and 60 times 143165577 is 28.
        Check.refusedEach("4 signs, times", NO_ROOM, texts,
                (song, times) -> song.repeat(2, 0, times), 1 << 29, 1 << 30, (1 << 30) + 1);
        Check.refusedEach("60 signs, times", NO_ROOM, texts,
                (song, times) -> song.repeat(2, 1, times), 143165577, 71582789);
    }

    @Says("9: Lets a slot become a part of a text.")
    static void partOfAnotherAndOfItself() {
        Check.leaves("of another", Check.with("abcdef", "old"), song -> song.part(1, 0, 1, 4), 3,
                "abcdef", "bcd");
        Check.leaves("of itself", Check.with("abcdef"), song -> song.part(0, 0, 2, 6), 4, "cdef");
    }

    @Says("9: the place ahead of which it ends, or how many signs there are")
    static void partUpToTheEnd() {
        Check.leaves("all", Check.with("abcdef", "old"), song -> song.part(1, 0, 0, 6), 6,
                "abcdef", "abcdef");
        Check.leaves("the last sign", Check.with("abcdef", "old"), song -> song.part(1, 0, 5, 6),
                1, "abcdef", "f");
        Check.leaves("all 60", Check.with(FULL, "old"), song -> song.part(1, 0, 0, 60), 60, FULL,
                FULL);
        Check.leaves("the last of 60", Check.with(FULL, "old"), song -> song.part(1, 0, 59, 60), 1,
                FULL, FULL.substring(59));
    }

    @Says("9: or from is below 0, or above till, or till is above how many signs there are")
    static void partWithoutASign() {
        Check.leaves("at the start", Check.with("abc", "old"), song -> song.part(1, 0, 0, 0), 0,
                "abc", "");
        Check.leaves("within", Check.with("abc", "old"), song -> song.part(1, 0, 2, 2), 0, "abc",
                "");
        Check.leaves("at the end", Check.with("abc", "old"), song -> song.part(1, 0, 3, 3), 0,
                "abc", "");
        Check.leaves("of an empty one", Check.with("", "old"), song -> song.part(1, 0, 0, 0), 0,
                "", "");
        Check.leaves("at the end of 60", Check.with(FULL, "old"), song -> song.part(1, 0, 60, 60),
                0, FULL, "");
    }

    @Says("9: Throws IndexOutOfBoundsException if there is no such slot, for any")
    static void partRefusesNoSlot() {
        Check.slots("slot", (song, slot) -> song.part(slot, 0, 0, 1));
        Check.slots("a", (song, slot) -> song.part(0, slot, 0, 1));
    }

    private static void partRefused(String text, int from, int till) {
        Check.refused(from + " to " + till + " of " + text, Check.OUTSIDE,
                Check.texts(text, "old"), song -> song.part(1, 0, from, till));
    }

    @Says("9: from is below 0")
    static void partRefusesFromBelowNone() {
        partRefused("abc", -1, 2);
        partRefused("abc", -1, -1);
        partRefused("abc", -1, 0);
        partRefused("abc", Check.LOWEST, 3);
        partRefused("abc", Check.LOWEST, Check.LOWEST);
        partRefused("", -1, 0);
        partRefused(FULL, -1, 60);
    }

    @Says("9: or above till")
    static void partRefusesFromAboveTill() {
        partRefused("abc", 1, 0);
        partRefused("abc", 3, 2);
        partRefused("abc", 0, -1);
        partRefused("abc", 3, Check.LOWEST);
        partRefused("abc", Check.HIGHEST, 3);
        partRefused("", 1, 0);
        partRefused(FULL, 60, 59);
    }

    @Says("9: or till is above how many signs there are")
    static void partRefusesTillBehindTheEnd() {
        partRefused("abc", 0, 4);
        partRefused("abc", 3, 4);
        partRefused("abc", 4, 4);
        partRefused("abc", 0, 60);
        partRefused("abc", 0, Check.HIGHEST);
        partRefused("abc", Check.HIGHEST, Check.HIGHEST);
        partRefused("", 0, 1);
        partRefused("", 1, 1);
        partRefused(FULL, 0, 61);
        partRefused(FULL, 61, 61);
    }

    @Says("10: Lets a slot become a text turned.")
    static void turnAnotherAndItself() {
        Check.leaves("another", Check.with("abcde", "old"), song -> song.turn(1, 0, 2), 5, "abcde",
                "cdeab");
        Check.leaves("itself", Check.with("abcde"), song -> song.turn(0, 0, 4), 5, "eabcd");
        Check.leaves("60 signs", Check.with(FULL), song -> song.turn(0, 0, 1), 60,
                FULL.substring(1) + "0");
    }

    @Says("10: the number is not 0 to how many signs there are")
    static void turnByNoneAndByAll() {
        Check.leaves("by none", Check.with("abc", "old"), song -> song.turn(1, 0, 0), 3, "abc",
                "abc");
        Check.leaves("by all", Check.with("abc", "old"), song -> song.turn(1, 0, 3), 3, "abc",
                "abc");
        Check.leaves("by all but one", Check.with("abc", "old"), song -> song.turn(1, 0, 2), 3,
                "abc", "cab");
        Check.leaves("an empty one", Check.with("", "old"), song -> song.turn(1, 0, 0), 0, "", "");
        Check.leaves("by 60", Check.with(FULL, "old"), song -> song.turn(1, 0, 60), 60, FULL,
                FULL);
    }

    @Says("10: Throws IndexOutOfBoundsException if there is no such slot, for any")
    static void turnRefusesNoSlot() {
        Check.slots("slot", (song, slot) -> song.turn(slot, 0, 1));
        Check.slots("a", (song, slot) -> song.turn(0, slot, 1));
    }

    @Says("10: or the number is not 0 to how many signs there are")
    static void turnRefusesOtherNumbers() {
        Check.refusedEach("by", Check.OUTSIDE, Check.texts("abc", "old"),
                (song, by) -> song.turn(1, 0, by), -1, 4, -3, 6, 60, Check.LOWEST, Check.HIGHEST);
        Check.refusedEach("an empty one by", Check.OUTSIDE, Check.texts("", "old"),
                (song, by) -> song.turn(1, 0, by), -1, 1);
        Check.refusedEach("a full one by", Check.OUTSIDE, Check.texts(FULL, "old"),
                (song, by) -> song.turn(1, 0, by), -1, 61);
    }

    @Says("11: Lets a slot become a text backwards.")
    static void backAnotherAndItself() {
        Check.leaves("another", Check.with("abcd", "old"), song -> song.back(1, 0), 4, "abcd",
                "dcba");
        Check.leaves("itself", Check.with("abc"), song -> song.back(0, 0), 3, "cba");
    }

    @Says("11: Returns how many signs it has then.")
    static void backEmptyToFull() {
        Check.leaves("an empty one", Check.with("", "old"), song -> song.back(1, 0), 0, "", "");
        Check.leaves("a sign", Check.with("q", "old"), song -> song.back(1, 0), 1, "q", "q");
        Check.leaves("60 signs", Check.with(FULL), song -> song.back(0, 0), 60,
                new StringBuilder(FULL).reverse().toString());
    }

    @Says("11: Throws IndexOutOfBoundsException if there is no such slot, for any")
    static void backRefusesNoSlot() {
        Check.slots("slot", (song, slot) -> song.back(slot, 0));
        Check.slots("a", (song, slot) -> song.back(0, slot));
    }

    /** Into a slot apart, and into each of those that are read. */
    private static void putting(String text, String what, String with, String want) {
        String call = "put(" + text + ", " + what + ", " + with + ")";
        Check.leaves(call, Check.with(text, what, with, "old"), song -> song.put(3, 0, 1, 2),
                want.length(), text, what, with, want);
        for (int slot = 0; slot < 3; slot++) {
            Rootsong song = Check.with(text, what, with);
            song.put(slot, 0, 1, 2);
            Check.due(call + " into " + slot, Check.text(song, slot), want);
        }
    }

    @Says("12: Lets a slot become a text in which another one stands in place of a third one")
    static void putStandsInPlace() {
        putting("abc", "abc", "q", "q");
        putting("abc", "b", "xy", "axyc");
        putting("abc", "b", "", "ac");
        putting("abc", "abc", "", "");
        putting("~ ~", " ", "~", "~~~");
    }

    @Says("12: wherever this stands")
    static void putWhereverItStands() {
        putting("abcabc", "b", "xy", "axycaxyc");
        putting("bab", "b", "cc", "ccacc");
        putting("bbb", "b", "cc", "cccccc");
        putting("abcabc", "abc", "", "");
    }

    @Says("12: looked for from the left, each time behind the one before.")
    static void putFromTheLeft() {
        putting("aaaaa", "aa", "b", "bba");
        putting("ababab", "aba", "", "bab");
        putting("ababa", "aba", "c", "cba");
    }

    @Says("12: looked for from the left, each time behind the one before.")
    static void putDoesNotLookIntoWhatItPut() {
        putting("aab", "ab", "b", "ab");
        putting("aaaa", "aa", "aba", "abaaba");
        putting("abb", "ab", "a", "ab");
        putting("aabb", "ab", "", "ab");
    }

    @Says("12: wherever this stands")
    static void putWhereItDoesNotStand() {
        putting("abc", "x", "q", "abc");
        putting("abc", "abcd", "q", "abc");
        putting("abc", "ac", "q", "abc");
        putting("", "x", "q", "");
        putting(FULL, "~", FULL, FULL);
    }

    @Says("12: Returns how many signs it has then.")
    static void putOneSlotForAllOrSome() {
        Check.leaves("itself for itself", Check.with("ab"), song -> song.put(0, 0, 0, 0), 2, "ab");
        Check.leaves("itself in itself", Check.with("ab", "c"), song -> song.put(0, 0, 0, 1), 1,
                "c", "c");
        Check.leaves("what for what", Check.with("aba", "a"), song -> song.put(1, 0, 1, 1), 3,
                "aba", "aba");
        Check.leaves("the text in itself", Check.with("ab", "a"), song -> song.put(1, 0, 1, 0), 3,
                "ab", "abb");
    }

    @Says("12: Throws IndexOutOfBoundsException if there is no such slot, for any")
    static void putRefusesNoSlot() {
        Check.slots("slot", (song, slot) -> song.put(slot, 0, 1, 2));
        Check.slots("a", (song, slot) -> song.put(0, slot, 1, 2));
        Check.slots("what", (song, slot) -> song.put(0, 1, slot, 2));
        Check.slots("with", (song, slot) -> song.put(0, 1, 2, slot));
    }

    @Says("12: Throws UnsupportedOperationException if what is looked for is empty")
    static void putRefusesToLookForNothing() {
        String[] texts = {"ab", "", "q", "old", FULL};
        Check.refused("in some", EMPTY, texts, song -> song.put(3, 0, 1, 2));
        Check.refused("in 60 signs", EMPTY, texts, song -> song.put(3, 4, 1, 2));
        Check.refused("in an empty one", EMPTY, texts, song -> song.put(3, 5, 1, 2));
        Check.refused("in itself", EMPTY, texts, song -> song.put(3, 1, 1, 1));
        Check.refused("for nothing", EMPTY, texts, song -> song.put(3, 0, 1, 5));
        Check.refused("into the text", EMPTY, texts, song -> song.put(0, 0, 1, 2));
    }

    @Says("12: Throws IllegalStateException if it would have more than 60 signs")
    static void putMakesSixtySigns() {
        putting("aa", "a", HALF, HALF + HALF);
        putting("b" + "a".repeat(29), "a", "xy", "b" + "xy".repeat(29));
        putting("a".repeat(30), "a", "xy", "xy".repeat(30));
        putting("a", "a", FULL, FULL);
        putting(FULL, "0", "~", "~" + FULL.substring(1));
        putting(Check.LIKE, "x", "y", "y".repeat(60));
        putting(Check.LIKE, "xx", "y", "y".repeat(30));
        putting(FULL.substring(1), "a", "yz", FULL.substring(1).replace("a", "yz"));
    }

    @Says("12: Throws IllegalStateException if it would have more than 60 signs")
    static void putRefusesOneMore() {
        String[] texts = {"a".repeat(29) + "bbb", "a", "xy", FULL, "0", "old"};
        Check.refused("61 signs", NO_ROOM, texts, song -> song.put(5, 0, 1, 2));
        Check.refused("61 signs, at the front", NO_ROOM, texts, song -> song.put(3, 3, 4, 2));
        Check.refused("91 signs", NO_ROOM, texts, song -> song.put(0, 0, 1, 5));
        String[] more = {"ba", "a", FULL, Check.LIKE, "x", "old"};
        Check.refused("60 and 1", NO_ROOM, more, song -> song.put(5, 0, 1, 2));
        Check.refused("3600 signs", NO_ROOM, more, song -> song.put(3, 3, 4, 2));
    }
}
