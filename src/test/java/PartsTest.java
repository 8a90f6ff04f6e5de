/** Promises 34 to 36: unlikeParts, twice, mirrors. */
public final class PartsTest {
    private static final String FULL = Check.FULL;
    private static final String LIKE = Check.LIKE;

    public static void main(String[] args) {
        Check.run(PartsTest.class);
    }

    /** An object that has put the ends of another text in order just before. */
    private static Rootsong behindAnother(String text) {
        Rootsong song = Check.with(text, "old", "mississippi".repeat(5));
        song.endAt(2, 0);
        song.erase(2);
        return song;
    }

    private static void parts(String text, int want) {
        Check.due("of " + text, behindAnother(text).unlikeParts(0), want);
    }

    @Says("34: Returns how many unlike parts, not empty, a text has.")
    static void unlikePartsOfSomeTexts() {
        parts("a", 1);
        parts("aa", 2);
        parts("ab", 3);
        parts("aba", 5);
        parts("banana", 15);
        parts("abcabc", 15);
        parts("abaaba", 14);
        parts("xyabxyabab", 42);
    }

    @Says("34: Returns how many unlike parts, not empty, a text has.")
    static void unlikePartsOfAnEmptyOne() {
        parts("", 0);
    }

    @Says("34: Returns how many unlike parts, not empty, a text has.")
    static void unlikePartsOfSixtySigns() {
        parts(LIKE, 60);
        parts(FULL, 60 * 61 / 2);
        parts(FULL.substring(0, 59) + "0", 60 * 61 / 2 - 1);
    }

    @Says("34: Throws IndexOutOfBoundsException if there is no such slot")
    static void unlikePartsRefusesNoSlot() {
        Check.slots("a", Rootsong::unlikeParts);
    }

    private static void twice(String text, String want) {
        Check.leaves("of " + text, behindAnother(text), song -> song.twice(1, 0), want.length(),
                text, want);
        Check.leaves("of itself, " + text, behindAnother(text), song -> song.twice(0, 0),
                want.length(), want, "old");
    }

    @Says("35: Lets a slot become the longest text that stands at two unlike places of a text")
    static void twiceTheLongest() {
        twice("aba", "a");
        twice("abcabc", "abc");
        twice("xyabxyabab", "xyab");
        twice("aabaab", "aab");
    }

    @Says("35: Lets a slot become the longest text that stands at two unlike places of a text")
    static void twiceAtPlacesThatOverlap() {
        twice("aa", "a");
        twice("aaa", "aa");
        twice("banana", "ana");
        twice("abaaba", "aba");
        twice("ababab", "abab");
    }

    @Says("35: of several the least one")
    static void twiceOfSeveralTheLeast() {
        twice("dcdcxabab", "ab");
        twice("ababxdcdc", "ab");
        twice("bbaa", "a");
        twice("aabb", "a");
        twice("cbcbab", "cb");
        twice("~~  ", " ");
    }

    @Says("35: empty without any.")
    static void twiceWithoutAny() {
        twice("", "");
        twice("a", "");
        twice("ab", "");
        twice(FULL, "");
    }

    @Says("35: Returns how many signs it has then.")
    static void twiceOfSixtySigns() {
        twice(LIKE, LIKE.substring(1));
        twice(FULL.substring(0, 30).repeat(2), FULL.substring(0, 30));
        twice(FULL.substring(0, 59) + "0", "0");
    }

    @Says("35: Throws IndexOutOfBoundsException if there is no such slot, for any")
    static void twiceRefusesNoSlot() {
        Check.slots("slot", (song, slot) -> song.twice(slot, 0));
        Check.slots("a", (song, slot) -> song.twice(0, slot));
    }

    private static void mirrors(String text, int want) {
        Check.due("of " + text, behindAnother(text).mirrors(0), want);
    }

    @Says("36: Returns how many unlike mirrors a text has.")
    static void mirrorsOfSomeTexts() {
        mirrors("a", 1);
        mirrors("aa", 2);
        mirrors("ab", 2);
        mirrors("aba", 3);
        mirrors("abba", 4);
        mirrors("banana", 6);
        mirrors("abcabc", 3);
        mirrors("abaaba", 6);
        mirrors("dcdcxabab", 9);
    }

    @Says("36: Returns how many unlike mirrors a text has.")
    static void mirrorsOfAnEmptyOne() {
        mirrors("", 0);
    }

    @Says("36: Returns how many unlike mirrors a text has.")
    static void mirrorsOfSixtySigns() {
        mirrors(LIKE, 60);
        mirrors(FULL, 60);
        mirrors("abc".repeat(20), 3);
    }

    @Says("36: Throws IndexOutOfBoundsException if there is no such slot")
    static void mirrorsRefusesNoSlot() {
        Check.slots("a", Rootsong::mirrors);
    }
}
