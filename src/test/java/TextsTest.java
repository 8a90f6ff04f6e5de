/** Promises 1 to 6: a new object, type, typeMore, erase, length, signAt. */
public final class TextsTest {
    private static final Class<IllegalArgumentException> WRONG = IllegalArgumentException.class;
    private static final Class<IllegalStateException> NO_ROOM = IllegalStateException.class;
    private static final char NONE = 0;
    private static final int[] NO_CODES = {0, 1, 31, 127, 128, 255, 256 + 'a', 32768, 65535};

    public static void main(String[] args) {
        Check.run(TextsTest.class);
    }

    @Says("1: Creates six empty texts.")
    static void aNewObjectHasSixEmptyTexts() {
        Rootsong song = new Rootsong();
        for (int slot = 0; slot < 6; slot++) {
            Check.due("length of slot " + slot, song.length(slot), 0);
        }
        Check.due("the texts", Check.all(song), Check.all());
    }

    @Says("1: Creates six empty texts.")
    static void aNewObjectSharesNothingWithAnother() {
        Rootsong one = Check.with("a", "b", "c", "d", "e", Check.FULL);
        Check.due("the texts of another one", Check.all(new Rootsong()), Check.all());
        one.erase(0);
        Rootsong other = Check.with("other");
        Check.due("length of the first one", one.length(0), 0);
        Check.due("length of the other one", other.length(0), 5);
    }

    @Says("2: Puts a sign behind a text.")
    static void typePutsASignBehindTheText() {
        Rootsong song = Check.with("", "q");
        song.type(0, 'b');
        song.type(0, 'a');
        Check.leaves("type", song, x -> x.type(1, 'r'), 2, "ba", "qr");
    }

    @Says("2: Returns how many signs it has then.")
    static void typeReturnsHowMany() {
        Rootsong song = new Rootsong();
        for (int size = 1; size <= 60; size++) {
            Check.due("sign " + size, song.type(3, 'a'), size);
        }
    }

    @Says("2: Throws IndexOutOfBoundsException if there is no such slot")
    static void typeRefusesNoSlot() {
        Check.slots("slot", (song, slot) -> song.type(slot, 'a'));
    }

    @Says("2: Throws IllegalArgumentException if its code is not 32 to 126")
    static void typeTakesEachCodeUpTo126() {
        for (int code = 32; code <= 126; code++) {
            char sign = (char) code;
            Check.leaves("code " + code, Check.with("a"), song -> song.type(0, sign), 2,
                    "a" + sign);
        }
    }

    @Says("2: Throws IllegalArgumentException if its code is not 32 to 126")
    static void typeRefusesOtherCodes() {
        Check.refusedEach("code", WRONG, Check.texts("abc", "d"),
                (song, code) -> song.type(0, (char) code), NO_CODES);
    }

    @Says("2: Throws IllegalStateException if it would have more than 60 signs")
    static void typeTakesTheSixtiethSign() {
        String nearly = Check.FULL.substring(1);
        Check.leaves("sixtieth", Check.with(nearly), song -> song.type(0, 'y'), 60, nearly + "y");
    }

    @Says("2: Throws IllegalStateException if it would have more than 60 signs")
    static void typeRefusesOneMore() {
        Check.refused("one more", NO_ROOM, Check.texts("a", Check.FULL), song -> song.type(1, 'y'));
        Check.leaves("in another slot", Check.with("a", Check.FULL), song -> song.type(0, 'y'), 2,
                "ay", Check.FULL);
    }

    /** Types signs of which those that are not put are wrong ones. */
    private static int more(Rootsong song, int slot, int many, String signs, char rest) {
        char[] all = new char[6];
        for (int index = 0; index < 6; index++) {
            all[index] = index < signs.length() ? signs.charAt(index) : rest;
        }
        return song.typeMore(slot, many, all[0], all[1], all[2], all[3], all[4], all[5]);
    }

    @Says("3: Puts some signs behind a text.")
    static void typeMorePutsSignsBehindTheText() {
        Rootsong song = Check.with("", "ab");
        Check.leaves("in the one", song, x -> x.typeMore(0, 3, 'd', 'e', 'f', 'x', 'x', 'x'), 3,
                "def", "ab");
        Check.leaves("in the other", song, x -> x.typeMore(1, 2, 'c', 'd', 'x', 'x', 'x', 'x'), 4,
                "def", "abcd");
    }

    @Says("3: how many of the next ones, 1 to 6")
    static void typeMoreTakesOneToSix() {
        for (int many = 1; many <= 6; many++) {
            int size = many;
            Check.leaves("so many " + many, Check.with("ab"),
                    song -> song.typeMore(0, size, '1', '2', '3', '4', '5', '6'), 2 + many,
                    "ab" + "123456".substring(0, many));
        }
    }

    @Says("3: those that are not put are not looked at")
    static void typeMoreDoesNotLookAtTheRest() {
        for (int many = 1; many <= 5; many++) {
            String signs = "12345".substring(0, many);
            for (int code : NO_CODES) {
                Check.leaves(many + " ahead of code " + code, Check.with("ab"),
                        song -> more(song, 0, signs.length(), signs, (char) code), 2 + many,
                        "ab" + signs);
            }
        }
    }

    @Says("3: Throws IndexOutOfBoundsException if there is no such slot")
    static void typeMoreRefusesNoSlot() {
        Check.slots("slot", (song, slot) -> song.typeMore(slot, 6, 'a', 'b', 'c', 'd', 'e', 'f'));
    }

    @Says("3: Throws IllegalArgumentException if the number is out of range")
    static void typeMoreRefusesOtherNumbers() {
        Check.refusedEach("so many", WRONG, Check.texts("abc"),
                (song, many) -> song.typeMore(0, many, 'a', 'b', 'c', 'd', 'e', 'f'),
                0, 7, 8, -1, 60, 61, Check.LOWEST, Check.HIGHEST);
    }

    @Says("3: or the code of a sign is not 32 to 126")
    static void typeMoreRefusesAWrongCodeAtEachPlace() {
        for (int many = 1; many <= 6; many++) {
            for (int place = 0; place < many; place++) {
                for (int code : NO_CODES) {
                    StringBuilder signs = new StringBuilder("123456");
                    signs.setCharAt(place, (char) code);
                    int size = many;
                    Check.refused("code " + code + " at " + place + " of " + many, WRONG,
                            Check.texts("abc"),
                            song -> more(song, 0, size, signs.toString(), NONE));
                }
            }
        }
    }

    @Says("3: or the code of a sign is not 32 to 126")
    static void typeMoreTakesTheLowestAndHighestCodeAtEachPlace() {
        for (int place = 0; place < 6; place++) {
            for (char sign : new char[] {32, 126}) {
                StringBuilder signs = new StringBuilder("123456");
                signs.setCharAt(place, sign);
                Check.leaves("'" + sign + "' at " + place, Check.with("ab"),
                        song -> more(song, 0, 6, signs.toString(), NONE), 8, "ab" + signs);
            }
        }
    }

    @Says("3: Throws IllegalStateException if it would have more than 60 signs")
    static void typeMoreFillsUpToSixty() {
        for (int many = 1; many <= 6; many++) {
            String signs = "123456".substring(0, many);
            String ahead = Check.FULL.substring(many);
            Check.leaves("so many " + many, Check.with(ahead),
                    song -> more(song, 0, signs.length(), signs, NONE), 60, ahead + signs);
        }
    }

    @Says("3: Throws IllegalStateException if it would have more than 60 signs")
    static void typeMoreRefusesToPassSixty() {
        for (int many = 1; many <= 6; many++) {
            int size = many;
            for (int room = 0; room < many; room++) {
                Check.refused(many + " with room for " + room, NO_ROOM,
                        Check.texts(Check.FULL.substring(room), "a"),
                        song -> more(song, 0, size, "123456", NONE));
            }
        }
    }

    @Says("4: Makes a text empty.")
    static void eraseMakesJustThatTextEmpty() {
        Rootsong song = Check.with("abc", "de", Check.FULL);
        song.erase(0);
        Check.leaves("the full one", song, x -> x.erase(2), 60, "", "de", "");
        Check.leaves("type behind it", song, x -> x.type(2, 'q'), 1, "", "de", "q");
        Check.leaves("60 signs behind it", song, x -> x.repeat(0, 2, 60), 60, "q".repeat(60), "de",
                "q");
    }

    @Says("4: Returns how many signs it had.")
    static void eraseReturnsHowManyItHad() {
        Rootsong song = Check.with("abc", "", Check.FULL);
        Check.due("some", song.erase(0), 3);
        Check.due("an empty one", song.erase(1), 0);
        Check.due("sixty", song.erase(2), 60);
        Check.due("again", song.erase(2), 0);
    }

    @Says("4: Throws IndexOutOfBoundsException if there is no such slot")
    static void eraseRefusesNoSlot() {
        Check.slots("slot", Rootsong::erase);
    }

    @Says("5: Returns how many signs a text has.")
    static void lengthOfEmptyToFull() {
        for (int size = 0; size <= 60; size++) {
            Check.due("size " + size, Check.with("a", Check.FULL.substring(60 - size)).length(1),
                    size);
        }
    }

    @Says("5: Throws IndexOutOfBoundsException if there is no such slot")
    static void lengthRefusesNoSlot() {
        Check.slots("slot", Rootsong::length);
    }

    @Says("6: Returns a sign of a text.")
    static void signAtEachPlace() {
        Rootsong song = Check.with("abc", Check.FULL);
        Check.due("the first one", song.signAt(0, 0), 'a');
        Check.due("the last one", song.signAt(0, 2), 'c');
        for (int place = 0; place < 60; place++) {
            Check.due("place " + place, song.signAt(1, place), Check.FULL.charAt(place));
        }
    }

    @Says("6: Throws IndexOutOfBoundsException if there is no such slot")
    static void signAtRefusesNoSlot() {
        Check.slots("slot", (song, slot) -> song.signAt(slot, 0));
    }

    @Says("6: Throws IndexOutOfBoundsException if there is no such slot, or place")
    static void signAtRefusesNoPlace() {
        Check.refusedEach("place", Check.OUTSIDE, Check.texts("abc"),
                (song, place) -> song.signAt(0, place),
                -1, 3, 4, 59, 60, Check.LOWEST, Check.HIGHEST);
        Check.refusedEach("place of an empty one", Check.OUTSIDE, Check.texts("a"),
                (song, place) -> song.signAt(1, place), -1, 0, 1);
        Check.refusedEach("place of a full one", Check.OUTSIDE, Check.texts(Check.FULL),
                (song, place) -> song.signAt(0, place), -1, 60, 61);
    }

    @Says("6: Throws IndexOutOfBoundsException if there is no such slot, or place")
    static void signAtRefusesPlacesThatWereThere() {
        Rootsong song = Check.with(Check.FULL);
        song.part(0, 0, 0, 5);
        Check.due("behind the end", Check.outcome(() -> song.signAt(0, 5)),
                "throws java.lang.IndexOutOfBoundsException");
        song.erase(0);
        Check.due("of an erased one", Check.outcome(() -> song.signAt(0, 0)),
                "throws java.lang.IndexOutOfBoundsException");
    }
}
