/** The terms on exceptions: which one comes first, and that a refused call changes nothing. */
public final class RefusedTest {
    private static final Class<IndexOutOfBoundsException> OUTSIDE = Check.OUTSIDE;
    private static final Class<IllegalArgumentException> WRONG = IllegalArgumentException.class;
    private static final Class<UnsupportedOperationException> NONE =
            UnsupportedOperationException.class;
    private static final String FULL = Check.FULL;
    private static final char LOW = 31;
    private static final int[] NO_SLOTS = {-1, 6};
    private static final String[] TEXTS = {"abaabaaba", "aba", "", FULL, "ba", "banana"};

    private static final Check.SongCall[] REFUSED = {
        song -> song.type(6, 'a'), song -> song.type(0, LOW), song -> song.type(3, 'a'),
        song -> song.typeMore(-1, 2, 'a', 'b', 'c', 'd', 'e', 'f'),
        song -> song.typeMore(0, 7, 'a', 'b', 'c', 'd', 'e', 'f'),
        song -> song.typeMore(0, 6, 'a', 'b', 'c', 'd', 'e', LOW),
        song -> song.typeMore(3, 6, 'a', 'b', 'c', 'd', 'e', 'f'),
        song -> song.erase(6), song -> song.length(6), song -> song.signAt(6, 0),
        song -> song.signAt(0, 9), song -> song.join(0, 1, 6), song -> song.join(0, 3, 1),
        song -> song.repeat(0, 6, 2), song -> song.repeat(0, 1, -1), song -> song.repeat(0, 1, 21),
        song -> song.part(0, 6, 0, 1), song -> song.part(0, 3, 5, 4),
        song -> song.part(0, 3, 5, 61), song -> song.turn(0, 6, 1), song -> song.turn(0, 1, 4),
        song -> song.back(0, 6),
        song -> song.put(0, 5, 1, 6), song -> song.put(0, 5, 2, 1), song -> song.put(0, 0, 1, 3),
        song -> song.first(0, 6, 0), song -> song.last(0, 6, 0), song -> song.many(0, 6, true),
        song -> song.many(0, 2, true), song -> song.isSame(0, 6), song -> song.compare(0, 6),
        song -> song.common(0, 6), song -> song.commonEnd(0, 6), song -> song.hash(6),
        song -> song.hashJoined(0, 6), song -> song.hashRepeated(6, 1),
        song -> song.hashRepeated(0, 1001), song -> song.periods(6), song -> song.periodAt(6, 0),
        song -> song.periodAt(0, 5), song -> song.border(0, 6), song -> song.border(0, 2),
        song -> song.root(0, 6), song -> song.root(0, 2), song -> song.turnTo(0, 6),
        song -> song.turnings(6), song -> song.leastTurn(6), song -> song.factors(6),
        song -> song.factorAt(6, 0), song -> song.factorAt(0, 5), song -> song.endAt(6, 0),
        song -> song.endAt(0, 9), song -> song.rankOf(6, 0), song -> song.rankOf(0, 9),
        song -> song.unlikeParts(6), song -> song.twice(0, 6), song -> song.twice(6, 0),
        song -> song.mirrors(6), song -> song.commute(0, 6), song -> song.commonRoot(0, 1, 6),
        song -> song.commonRoot(0, 1, 4), song -> song.commonRoot(0, 2, 2),
        song -> song.ways(6, 1), song -> song.ways(0, 64), song -> song.isFree(64),
        song -> song.rootShare(6), song -> song.rootShare(2), song -> song.meanPeriod(6),
        song -> song.meanPeriod(2),
    };

    private static final Check.SongCall[] READING = {
        song -> song.checksum(), song -> song.length(0), song -> song.signAt(0, 8),
        song -> song.first(0, 1, 1), song -> song.last(0, 1, 8), song -> song.many(0, 1, false),
        song -> song.many(0, 1, true), song -> song.isSame(0, 1), song -> song.compare(0, 5),
        song -> song.common(0, 1), song -> song.commonEnd(0, 1), song -> song.hash(3),
        song -> song.hashJoined(0, 3), song -> song.hashRepeated(0, 9), song -> song.periods(0),
        song -> song.periodAt(0, 2), song -> song.turnTo(4, 4), song -> song.turnings(0),
        song -> song.leastTurn(5), song -> song.factors(5), song -> song.factorAt(5, 2),
        song -> song.endAt(5, 3), song -> song.rankOf(5, 3), song -> song.unlikeParts(5),
        song -> song.mirrors(5), song -> song.commute(0, 1), song -> song.ways(0, 63),
        song -> song.isFree(63), song -> song.isFree(18), song -> song.rootShare(0),
        song -> song.meanPeriod(0), song -> song.isTrue(),
    };

    private static final Check.SongCall[] MAKING = {
        song -> song.type(1, 'a'), song -> song.typeMore(1, 3, 'a', 'b', 'c', LOW, LOW, LOW),
        song -> song.erase(1), song -> song.join(1, 0, 5), song -> song.repeat(1, 0, 6),
        song -> song.part(1, 3, 7, 59), song -> song.turn(1, 3, 59), song -> song.back(1, 3),
        song -> song.put(1, 0, 4, 5), song -> song.border(1, 0), song -> song.root(1, 0),
        song -> song.twice(1, 5), song -> song.commonRoot(4, 0, 1),
    };

    public static void main(String[] args) {
        Check.run(RefusedTest.class);
    }

    @Says("2: if its code is not 32 to 126")
    static void typeSlotAheadOfCode() {
        Check.refusedEach("slot", OUTSIDE, Check.texts("ab"), (song, slot) -> song.type(slot, LOW),
                NO_SLOTS);
    }

    @Says("2: if its code is not 32 to 126")
    static void typeCodeAheadOfRoom() {
        Check.refusedEach("code", WRONG, Check.texts(FULL),
                (song, code) -> song.type(0, (char) code), 31, 127);
    }

    @Says("3: if the number is out of range, or the code of a sign is not 32 to 126")
    static void typeMoreSlotAheadOfNumberAndCode() {
        Check.refusedEach("a wrong number, slot", OUTSIDE, Check.texts("ab"),
                (song, slot) -> song.typeMore(slot, 0, 'a', 'b', 'c', 'd', 'e', 'f'), NO_SLOTS);
        Check.refusedEach("a wrong code, slot", OUTSIDE, Check.texts("ab"),
                (song, slot) -> song.typeMore(slot, 1, LOW, 'b', 'c', 'd', 'e', 'f'), NO_SLOTS);
    }

    @Says("3: if the number is out of range, or the code of a sign is not 32 to 126")
    static void typeMoreNumberAndCodeAheadOfRoom() {
        Check.refusedEach("so many", WRONG, Check.texts(FULL),
                (song, many) -> song.typeMore(0, many, 'a', 'b', 'c', 'd', 'e', 'f'), -1, 0, 7);
        Check.refused("the first code", WRONG, Check.texts(FULL),
                song -> song.typeMore(0, 1, LOW, 'b', 'c', 'd', 'e', 'f'));
        Check.refused("the last code", WRONG, Check.texts(FULL),
                song -> song.typeMore(0, 6, 'a', 'b', 'c', 'd', 'e', (char) 127));
        Check.refused("a code that there is no room for", WRONG,
                Check.texts(FULL.substring(3)),
                song -> song.typeMore(0, 4, 'a', 'b', 'c', (char) 127, 'e', 'f'));
    }

    @Says("7: if it would have more than 60 signs")
    static void joinSlotAheadOfRoom() {
        Check.refusedEach("slot", OUTSIDE, Check.texts(FULL), (song, slot) -> song.join(slot, 0, 0),
                NO_SLOTS);
    }

    @Says("8: if it is below 0")
    static void repeatSlotAheadOfTimes() {
        Check.refusedEach("slot", OUTSIDE, Check.texts("ab"),
                (song, slot) -> song.repeat(slot, 0, -1), NO_SLOTS);
        Check.refusedEach("a", OUTSIDE, Check.texts("ab"), (song, slot) -> song.repeat(0, slot, -1),
                NO_SLOTS);
    }

    @Says("8: if it would have more than 60 signs")
    static void repeatSlotAheadOfRoom() {
        Check.refusedEach("slot", OUTSIDE, Check.texts(FULL),
                (song, slot) -> song.repeat(slot, 0, 2), NO_SLOTS);
    }

    @Says("12: if what is looked for is empty")
    static void putSlotAheadOfNothingLookedFor() {
        Check.refusedEach("slot", OUTSIDE, Check.texts("ab", "", "q"),
                (song, slot) -> song.put(slot, 0, 1, 2), NO_SLOTS);
        Check.refusedEach("a", OUTSIDE, Check.texts("ab", "", "q"),
                (song, slot) -> song.put(0, slot, 1, 2), NO_SLOTS);
        Check.refusedEach("with", OUTSIDE, Check.texts("ab", "", "q"),
                (song, slot) -> song.put(0, 0, 1, slot), NO_SLOTS);
    }

    @Says("12: if it would have more than 60 signs")
    static void putSlotAheadOfRoom() {
        Check.refusedEach("slot", OUTSIDE, Check.texts("aa", "a", FULL),
                (song, slot) -> song.put(slot, 0, 1, 2), NO_SLOTS);
    }

    @Says("12: if it would have more than 60 signs")
    static void putNothingLookedForAheadOfRoom() {
        Check.refused("in 60 signs", NONE, Check.texts(FULL, "", FULL),
                song -> song.put(0, 0, 1, 2));
    }

    @Says("15: if what is looked for is empty")
    static void manySlotAheadOfNothingLookedFor() {
        Check.refusedEach("apart, a", OUTSIDE, Check.texts("ab"),
                (song, slot) -> song.many(slot, 1, true), NO_SLOTS);
        Check.refusedEach("a", OUTSIDE, Check.texts("ab"),
                (song, slot) -> song.many(slot, 1, false), NO_SLOTS);
    }

    @Says("22: if it is out of range")
    static void hashRepeatedSlotAheadOfTimes() {
        Check.refusedEach("too few, a", OUTSIDE, Check.texts("ab"),
                (song, slot) -> song.hashRepeated(slot, -1), NO_SLOTS);
        Check.refusedEach("too many, a", OUTSIDE, Check.texts("ab"),
                (song, slot) -> song.hashRepeated(slot, 1001), NO_SLOTS);
    }

    @Says("24: if there is none such")
    static void periodAtSlotAheadOfIndex() {
        Check.refusedEach("a", OUTSIDE, Check.texts("ab"), (song, slot) -> song.periodAt(slot, -1),
                NO_SLOTS);
    }

    @Says("25: if the text is empty")
    static void borderSlotAheadOfAnEmptyText() {
        Check.refusedEach("slot", OUTSIDE, Check.texts(""), (song, slot) -> song.border(slot, 0),
                NO_SLOTS);
    }

    @Says("26: if the text is empty")
    static void rootSlotAheadOfAnEmptyText() {
        Check.refusedEach("slot", OUTSIDE, Check.texts(""), (song, slot) -> song.root(slot, 0),
                NO_SLOTS);
    }

    @Says("31: if there is none such")
    static void factorAtSlotAheadOfIndex() {
        Check.refusedEach("a", OUTSIDE, Check.texts("ab"), (song, slot) -> song.factorAt(slot, -1),
                NO_SLOTS);
    }

    @Says("32: if there is none such")
    static void endAtSlotAheadOfIndex() {
        Check.refusedEach("a", OUTSIDE, Check.texts("ab"), (song, slot) -> song.endAt(slot, -1),
                NO_SLOTS);
    }

    @Says("38: if there is none such, or both are empty")
    static void commonRootSlotAheadOfNoRoot() {
        Check.refusedEach("no root, slot", OUTSIDE, Check.texts("a", "b"),
                (song, slot) -> song.commonRoot(slot, 0, 1), NO_SLOTS);
        Check.refusedEach("both empty, slot", OUTSIDE, Check.texts("", ""),
                (song, slot) -> song.commonRoot(slot, 0, 1), NO_SLOTS);
        Check.refusedEach("one empty, a", OUTSIDE, Check.texts("", ""),
                (song, slot) -> song.commonRoot(0, slot, 1), NO_SLOTS);
        Check.refusedEach("one empty, b", OUTSIDE, Check.texts("", ""),
                (song, slot) -> song.commonRoot(0, 1, slot), NO_SLOTS);
    }

    @Says("39: if the set is out of range")
    static void waysSlotAheadOfSet() {
        Check.refusedEach("too small, a", OUTSIDE, Check.texts("ab"),
                (song, slot) -> song.ways(slot, -1), NO_SLOTS);
        Check.refusedEach("too large, a", OUTSIDE, Check.texts("ab"),
                (song, slot) -> song.ways(slot, 64), NO_SLOTS);
    }

    /** A slot that is not there has no text, and so none that is empty. */
    @Says("Terms: If several exceptions apply, the one that is documented first is thrown.")
    static void figuresOfNoSlot() {
        Check.refusedEach("rootShare", OUTSIDE, Check.texts(""), Rootsong::rootShare, NO_SLOTS);
        Check.refusedEach("meanPeriod", OUTSIDE, Check.texts(""), Rootsong::meanPeriod, NO_SLOTS);
    }

    private static void afterIsAsBefore(Check.SongCall[] calls) {
        for (int call = 0; call < calls.length; call++) {
            Check.SongCall later = calls[call];
            Rootsong untouched = Check.with(TEXTS);
            Object want = Check.outcome(() -> later.on(untouched));
            String texts = Check.all(untouched);
            for (int index = 0; index < REFUSED.length; index++) {
                Check.SongCall refused = REFUSED[index];
                Rootsong song = Check.with(TEXTS);
                String names = "call " + call + " behind refused call " + index;
                Check.due("refused call " + index,
                        Check.outcome(() -> refused.on(song)).toString().startsWith("throws"),
                        true);
                Check.due(names, Check.outcome(() -> later.on(song)), want);
                Check.due("the texts behind " + names, Check.all(song), texts);
            }
        }
    }

    @Says("Terms: A method that throws an exception changes nothing.")
    static void whatIsToldBehindARefusedCall() {
        afterIsAsBefore(READING);
    }

    @Says("Terms: A method that throws an exception changes nothing.")
    static void whatIsMadeBehindARefusedCall() {
        afterIsAsBefore(MAKING);
    }

    @Says("Terms: A method that throws an exception changes nothing.")
    static void manyRefusedCallsOnOneObject() {
        Rootsong song = Check.with(TEXTS);
        for (int index = 0; index < REFUSED.length; index++) {
            Check.SongCall refused = REFUSED[index];
            Check.due("refused call " + index,
                    Check.outcome(() -> refused.on(song)).toString().startsWith("throws"), true);
            Check.due("the checksum behind it, " + index, song.checksum(),
                    Check.with(TEXTS).checksum());
        }
        Check.due("the texts", Check.all(song), Check.all(TEXTS));
    }
}
