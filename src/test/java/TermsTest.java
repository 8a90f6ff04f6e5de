/** What stands ahead of the promises: the life of an object, and the terms. */
public final class TermsTest {
    private static final String FULL = Check.FULL;
    private static final String LIKE = Check.LIKE;

    public static void main(String[] args) {
        Check.run(TermsTest.class);
    }

    @Says("Rootsong: An object is used for at most 512 calls after it has been made")
    static void theLastOf512CallsAnswersAsTheFirst() {
        Rootsong song = new Rootsong();
        song.typeMore(0, 6, 'b', 'a', 'n', 'a', 'n', 'a');
        for (int call = 2; call < 512; call++) {
            if (call % 3 == 0) {
                Check.due("call " + call, song.endAt(0, 5), 2);
            } else if (call % 3 == 1) {
                Check.due("call " + call, Check.outcome(() -> song.type(6, 'a')),
                        "throws java.lang.IndexOutOfBoundsException");
            } else {
                Check.due("call " + call, song.twice(1, 0), 3);
            }
        }
        Check.due("call 512", song.checksum(), Check.with("banana", "ana").checksum());
    }

    @Says("Rootsong: An object is used for at most 512 calls after it has been made")
    static void theSixtiethSignMayComeByTheLastCalls() {
        Rootsong song = new Rootsong();
        for (int call = 1; call <= 452; call++) {
            song.length(5);
        }
        for (int size = 1; size <= 60; size++) {
            Check.due("call " + (452 + size), song.type(5, 'x'), size);
        }
    }

    @Says("Terms: There are the slots 0 to 5, each with a text, empty at first")
    static void eachSlotHasATextOfItsOwn() {
        Rootsong song = new Rootsong();
        for (int slot = 0; slot < 6; slot++) {
            Check.due("at first, " + slot, song.length(slot), 0);
        }
        for (int slot = 0; slot < 6; slot++) {
            song.type(slot, (char) ('a' + slot));
        }
        Check.due("the texts", Check.all(song), Check.all("a", "b", "c", "d", "e", "f"));
    }

    @Says("Terms: of at most 60 signs")
    static void eachSlotHoldsSixtySigns() {
        String[] texts = {FULL, LIKE, FULL, "y".repeat(60), FULL, LIKE};
        Rootsong song = Check.with(texts);
        Check.due("the texts", Check.all(song), Check.all(texts));
        Check.refusedEach("one more in", IllegalStateException.class, texts,
                (full, slot) -> full.type(slot, 'y'), 0, 1, 2, 3, 4, 5);
    }

    @Says("Terms: a sign has a code, 32 to 126")
    static void theLowestAndTheHighestSign() {
        Rootsong song = Check.with("~ ");
        Check.due("the lowest", song.signAt(0, 1), (char) 32);
        Check.due("the highest", song.signAt(0, 0), (char) 126);
        Check.due("their order", song.endAt(0, 0), 1);
        Check.due("their number", song.hash(0), 126 * 31 + 32);
    }

    @Says("Terms: Places of a text are numbered from 0; a text has as many of them as signs.")
    static void placesFromNoneToTheLast() {
        for (int size = 0; size <= 60; size++) {
            Rootsong song = Check.with(FULL.substring(0, size));
            for (int place = -1; place <= 61; place++) {
                int at = place;
                Object want = place >= 0 && place < size ? (Object) FULL.charAt(place)
                        : "throws java.lang.IndexOutOfBoundsException";
                Check.due("place " + place + " of " + size,
                        Check.outcome(() -> song.signAt(0, at)), want);
            }
        }
    }

    @Says("Terms: A part of a text is what stands from one place on, up to ahead of another one, "
            + "or to the end")
    static void allPartsOfAText() {
        String text = "abcde";
        for (int from = 0; from <= 5; from++) {
            for (int till = from; till <= 5; till++) {
                int size = till - from;
                int start = from;
                Check.leaves(from + " to " + till, Check.with(text, "old"),
                        song -> song.part(1, 0, start, start + size), size, text,
                        text.substring(from, till));
            }
        }
    }

    @Says("Terms: it begins the text if it stands from 0 on, and is an end of it if it goes to "
            + "the end")
    static void aTextBeginsItselfAndIsAnEndOfItself() {
        Rootsong song = Check.with("aba", "", "ab", "ba");
        Check.due("begins itself", song.common(0, 0), 3);
        Check.due("an end of itself", song.commonEnd(0, 0), 3);
        Check.due("begins", song.common(0, 2), 2);
        Check.due("an end", song.commonEnd(0, 3), 2);
        Check.due("the empty one begins", song.common(0, 1), 0);
        Check.due("the empty one is an end", song.commonEnd(0, 1), 0);
        Check.due("not from 0 on", song.common(0, 3), 0);
        Check.due("not to the end", song.commonEnd(0, 2), 0);
    }

    @Says("Terms: the empty text stands at each place, and at that behind the last one.")
    static void theEmptyTextStandsAtEachPlace() {
        for (int size : new int[] {0, 1, 3, 60}) {
            Rootsong song = Check.with(FULL.substring(0, size));
            for (int place = 0; place <= size; place++) {
                Check.due("first in " + size + " from " + place, song.first(0, 1, place), place);
                Check.due("last in " + size + " till " + place, song.last(0, 1, place), place);
            }
            Check.due("behind the last of " + size, song.last(0, 1, Check.HIGHEST), size);
            Check.due("no place behind it, " + size, song.first(0, 1, Check.HIGHEST), size);
        }
    }

    @Says("Terms: Of two unlike texts that is less which has the lower code where they first "
            + "differ")
    static void theLowerCodeIsLess() {
        Check.due("by code, not by size", Check.with("b", "aaa").compare(0, 1) > 0, true);
        Check.due("capital letters first", Check.with("aZ").endAt(0, 0), 1);
        Check.due("digits ahead of letters", Check.with("A9").endAt(0, 0), 1);
        Check.due("the space first of all", Check.with("! ").leastTurn(0), 1);
        Check.due("the tilde last of all", Check.with("}~").factors(0), 1);
        Check.due("of several twice", Check.with("bbBB99  ").twice(1, 0), 1);
        Rootsong song = Check.with("bbBB99  ");
        song.twice(1, 0);
        Check.due("the least of several twice", Check.text(song, 1), " ");
    }

    @Says("Terms: or which begins the other one.")
    static void whatBeginsTheOtherOneIsLess() {
        Check.due("compared", Check.with("ab", "ab ").compare(0, 1) < 0, true);
        Check.due("the shorter end first", Check.with("aa").endAt(0, 0), 1);
        Check.due("the longest end last", Check.with(LIKE).endAt(0, 59), 0);
        Check.due("rank of the longest", Check.with(LIKE).rankOf(0, 0), 59);
        Check.due("a text is not a factor with an end that begins it",
                Check.with("aba").factors(0), 2);
    }

    @Says("Terms: A number from 1 on is a period of a text that has at least so many signs")
    static void aPeriodIsOneToTheSize() {
        for (int size = 1; size <= 60; size++) {
            Rootsong song = Check.with(LIKE.substring(0, size), FULL.substring(0, size));
            Check.due("as many as signs, " + size, song.periods(0), size);
            Check.due("1 is the least, " + size, song.periodAt(0, 0), 1);
            Check.due("the size is the greatest, " + size, song.periodAt(0, size - 1), size);
            Check.due("just the size, " + size, song.periods(1), 1);
            Check.due("the size, " + size, song.periodAt(1, 0), size);
        }
    }

    @Says("Terms: and is not itself; it may be empty.")
    static void theBorderIsNotTheTextItself() {
        Check.leaves("one sign", Check.with("a", "old"), song -> song.border(1, 0), 0, "a", "");
        Check.leaves("two like signs", Check.with("aa", "old"), song -> song.border(1, 0), 1, "aa",
                "a");
        Check.leaves("60 like signs", Check.with(LIKE, "old"), song -> song.border(1, 0), 59, LIKE,
                LIKE.substring(1));
    }

    @Says("Terms: A text is a repeat of another one if it is that, once or several times")
    static void aTextIsARepeatOfItself() {
        Check.leaves("once", Check.with("ab", "ab"), song -> song.commonRoot(2, 0, 1), 2, "ab",
                "ab", "ab");
        Check.leaves("once and several times", Check.with("ab", "ababab"),
                song -> song.commonRoot(2, 0, 1), 2, "ab", "ababab", "ab");
        Check.refused("not a part of it", UnsupportedOperationException.class,
                Check.texts("ab", "aba"), song -> song.commonRoot(2, 0, 1));
    }

    @Says("Terms: the empty text is a repeat of each one.")
    static void theEmptyTextIsARepeatOfEachOne() {
        Check.leaves("the one", Check.with("", "aa"), song -> song.commonRoot(2, 0, 1), 1, "",
                "aa", "a");
        Check.leaves("the other", Check.with("aba", ""), song -> song.commonRoot(2, 0, 1), 3,
                "aba", "", "aba");
    }

    @Says("Terms: The root of a text that is not empty is the shortest text of which it is a "
            + "repeat.")
    static void theRootIsTheShortest() {
        for (int size = 1; size <= 60; size++) {
            Check.leaves("of " + size, Check.with(LIKE.substring(0, size)),
                    song -> song.root(1, 0), size, LIKE.substring(0, size), "x");
        }
        Check.leaves("not of two", Check.with("abababab", "old"), song -> song.root(1, 0), 4,
                "abababab", "ab");
    }

    @Says("Terms: A text turned by a number, from 0 to as many signs as it has, is what stands "
            + "from that place on, and behind it what stands ahead of that place.")
    static void aTextTurnedByEachNumber() {
        String text = "abcde";
        for (int by = -1; by <= 6; by++) {
            int number = by;
            if (by < 0 || by > 5) {
                Check.refused("by " + by, Check.OUTSIDE, Check.texts(text, "old"),
                        song -> song.turn(1, 0, number));
            } else {
                Check.leaves("by " + by, Check.with(text, "old"), song -> song.turn(1, 0, number),
                        5, text, text.substring(by) + text.substring(0, by));
            }
        }
    }

    @Says("Terms: The ends of a text that are not empty are told by the places at which they "
            + "begin.")
    static void anEndForEachSign() {
        for (int size = 0; size <= 60; size++) {
            Rootsong song = Check.with(LIKE.substring(0, size));
            for (int index = 0; index < size; index++) {
                Check.due("end " + index + " of " + size, song.endAt(0, index), size - 1 - index);
            }
            int behind = size;
            Check.due("no empty end of " + size, Check.outcome(() -> song.endAt(0, behind)),
                    "throws java.util.NoSuchElementException");
            Check.due("no rank of the empty end of " + size,
                    Check.outcome(() -> song.rankOf(0, behind)),
                    "throws java.lang.IndexOutOfBoundsException");
        }
    }

    @Says("Terms: Factors of a text that is not empty are texts as the theorem tells, in the "
            + "order in which they stand, joined the text; the empty text has none.")
    static void theFactorsJoinedAreTheText() {
        for (String text : new String[] {"a", "banana", "cbabcab", FULL, LIKE}) {
            Rootsong song = Check.with(text);
            int count = song.factors(0);
            int ahead = -1;
            for (int index = 0; index < count; index++) {
                int place = song.factorAt(0, index);
                Check.due("rising, " + text + " at " + index, place > ahead, true);
                ahead = place;
            }
            Check.due("from 0 on, " + text, song.factorAt(0, 0), 0);
            Check.due("not behind the end, " + text, ahead < text.length(), true);
        }
        Check.due("the empty one", new Rootsong().factors(0), 0);
    }

    @Says("Terms: A mirror of a text is a part of it that is not empty, and the same backwards")
    static void aSignIsAMirrorAndNothingIsNone() {
        Check.due("nothing", Check.with("").mirrors(0), 0);
        Check.due("a sign", Check.with("a").mirrors(0), 1);
        Check.due("two unlike signs", Check.with("ab").mirrors(0), 2);
        Check.due("of an even number", Check.with("abba").mirrors(0), 4);
        Check.due("of an odd number", Check.with("abcba").mirrors(0), 5);
        Check.due("not nearly", Check.with("abca").mirrors(0), 3);
    }

    @Says("Terms: of mirrors, and of parts, like ones count once.")
    static void likeOnesCountOnce() {
        for (int size = 0; size <= 60; size++) {
            Rootsong song = Check.with(LIKE.substring(0, size));
            Check.due("parts of " + size, song.unlikeParts(0), size);
            Check.due("mirrors of " + size, song.mirrors(0), size);
        }
        Check.due("parts", Check.with("abab").unlikeParts(0), 7);
        Check.due("mirrors", Check.with("abab").mirrors(0), 4);
    }

    @Says("Terms: A set of slots is told as a number, 0 to 63, by its bits.")
    static void theSetsFromNoneToAll() {
        Rootsong song = Check.with("a", "aa", "aaa", "aaaa", "aaaaa", "aaaaaa");
        Check.due("none", song.ways(0, 0), 0L);
        Check.due("the lowest bit", song.ways(0, 1), 1L);
        Check.due("the highest bit", song.ways(5, 32), 1L);
        Check.due("all", song.ways(5, 63), 32L);
        Check.due("none are free", song.isFree(0), true);
        Check.due("the highest bit is free", song.isFree(32), true);
        Check.due("the lowest and the highest are not", song.isFree(33), false);
        Check.due("all are not", song.isFree(63), false);
        Check.refusedEach("ways of", IllegalArgumentException.class, Check.texts("a"),
                (object, set) -> object.ways(0, set), -1, 64);
        Check.refusedEach("isFree of", IllegalArgumentException.class, Check.texts("a"),
                (object, set) -> object.isFree(set), -1, 64);
    }

    @Says("Terms: A row of these is none, one or several of them, each perhaps again and again")
    static void rowsOfNoneOneOrSeveral() {
        Rootsong song = Check.with("", "a", LIKE, "x");
        Check.due("none", song.ways(0, 2), 1L);
        Check.due("none of none", song.ways(0, 0), 1L);
        Check.due("one", song.ways(1, 2), 1L);
        Check.due("again and again", song.ways(2, 8), 1L);
        Check.due("not the slot itself", song.ways(1, 8), 0L);
    }

    @Says("Terms: but never one whose text is empty")
    static void rowsWithoutEmptyTexts() {
        Rootsong song = Check.with("a", "", "aa");
        Check.due("ways", song.ways(0, 1 + 2), 1L);
        Check.due("ways of empty ones", song.ways(0, 2 + 8), 0L);
        Check.due("ways of an empty one", song.ways(1, 2), 1L);
        Check.due("one and empty ones are free", song.isFree(1 + 2 + 8), true);
        Check.due("two and empty ones are not", song.isFree(1 + 2 + 4), false);
    }

    @Says("Terms: In so many ways a text is made as there are rows that make it.")
    static void asManyWaysAsRows() {
        Rootsong song = Check.with("aaa", "a", "aa", "aaa", "a");
        Check.due("a a a", song.ways(0, 2), 1L);
        Check.due("and a aa, aa a", song.ways(0, 2 + 4), 3L);
        Check.due("and aaa", song.ways(0, 2 + 4 + 8), 4L);
        Check.due("rows of two slots a", song.ways(0, 2 + 16), 8L);
    }

    @Says("Terms: Slots are free if no two unlike rows of them make the same text.")
    static void oneRowAloneForEachText() {
        Rootsong song = Check.with("a", "ab", "ba", "aba");
        Check.due("a, ab", song.isFree(1 + 2), true);
        Check.due("a, ba", song.isFree(1 + 4), true);
        Check.due("a ba and ab a", song.isFree(1 + 2 + 4), false);
        Check.due("a ba and aba", song.isFree(1 + 4 + 8), false);
        Check.due("ab aba and aba ba", song.isFree(2 + 4 + 8), false);
    }
}
