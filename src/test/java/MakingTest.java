/** Promises 7 to 12: join, repeat, part, turn, back, put. */
public final class MakingTest {
    private static final String HALF = "0123456789abcdefghijklmnopqrst";
    private static final Class<IndexOutOfBoundsException> OUTSIDE = IndexOutOfBoundsException.class;

    public static void main(String[] args) {
        join();
        repeat();
        part();
        turn();
        back();
        put();
        putItself();
        putRefuses();
        Check.end("MakingTest");
    }

    private static void join() {
        Rootsong song = Check.with("ab", "cde", "", HALF, HALF + "u");
        Check.due("7: size", song.join(5, 0, 1), 5);
        Check.due("7: text", Check.text(song, 5), "abcde");
        song.join(5, 1, 2);
        Check.due("7: with an empty one", Check.text(song, 5), "cde");
        song.join(0, 1, 0);
        Check.due("7: behind another one", Check.text(song, 0), "cdeab");
        song.join(0, 0, 1);
        Check.due("7: ahead of another one", Check.text(song, 0), "cdeabcde");
        song.join(1, 1, 1);
        Check.due("7: to itself", Check.text(song, 1), "cdecde");
        Check.refused(song, "7: 61 signs", IllegalStateException.class, () -> song.join(5, 3, 4));
        Check.due("7: 60 signs", song.join(5, 3, 3), 60);
        Check.due("7: the 60 signs", Check.text(song, 5), HALF + HALF);
        Check.due("7: 60 signs and none", song.join(5, 5, 2), 60);
        for (int slot : Check.noSlots()) {
            Check.refused(song, "7: slot " + slot, OUTSIDE, () -> song.join(slot, 3, 4));
            Check.refused(song, "7: a " + slot, OUTSIDE, () -> song.join(0, slot, 4));
            Check.refused(song, "7: b " + slot, OUTSIDE, () -> song.join(0, 3, slot));
        }
    }

    private static void repeat() {
        Rootsong song = Check.with("ab", "", HALF, "abc");
        Check.due("8: thrice", song.repeat(4, 0, 3), 6);
        Check.due("8: text", Check.text(song, 4), "ababab");
        song.repeat(0, 0, 2);
        Check.due("8: itself", Check.text(song, 0), "abab");
        Check.due("8: once", song.repeat(4, 3, 1), 3);
        Check.due("8: never", song.repeat(4, 3, 0), 0);
        Check.due("8: 60 signs", song.repeat(4, 2, 2), 60);
        Check.due("8: the 60 signs", Check.text(song, 4), HALF + HALF);
        for (int times : new int[] {3, 4, Integer.MAX_VALUE, 1 << 30, 143165577}) {
            Check.refused(song, "8: too many, " + times, IllegalStateException.class,
                    () -> song.repeat(5, 2, times));
        }
        Check.due("8: an empty one, however often", song.repeat(4, 1, Integer.MAX_VALUE), 0);
        Check.due("8: an empty one is left", Check.text(song, 4), "");
        for (int times : new int[] {-1, Integer.MIN_VALUE}) {
            Check.refused(song, "8: times " + times, IllegalArgumentException.class,
                    () -> song.repeat(5, 1, times));
        }
        for (int slot : Check.noSlots()) {
            Check.refused(song, "8: slot " + slot, OUTSIDE, () -> song.repeat(slot, 2, -1));
            Check.refused(song, "8: a " + slot, OUTSIDE, () -> song.repeat(0, slot, -1));
        }
    }

    private static void part() {
        Rootsong song = Check.with("abcdef", "", HALF + HALF);
        Check.due("9: size", song.part(3, 0, 1, 4), 3);
        Check.due("9: text", Check.text(song, 3), "bcd");
        Check.due("9: all", song.part(3, 0, 0, 6), 6);
        Check.due("9: none at the end", song.part(3, 0, 6, 6), 0);
        Check.due("9: none", song.part(3, 1, 0, 0), 0);
        Check.due("9: all 60", song.part(3, 2, 0, 60), 60);
        song.part(0, 0, 2, 6);
        Check.due("9: of itself", Check.text(song, 0), "cdef");
        int[][] wrong = {{-1, 2}, {3, 2}, {0, 5}, {5, 5}, {5, 4}, {Integer.MIN_VALUE, 0},
            {0, Integer.MAX_VALUE}, {0, -1}, {-2, -1}};
        for (int[] pair : wrong) {
            Check.refused(song, "9: from " + pair[0] + " till " + pair[1], OUTSIDE,
                    () -> song.part(3, 0, pair[0], pair[1]));
        }
        for (int slot : Check.noSlots()) {
            Check.refused(song, "9: slot " + slot, OUTSIDE, () -> song.part(slot, 0, 0, 0));
            Check.refused(song, "9: a " + slot, OUTSIDE, () -> song.part(0, slot, 0, 0));
        }
    }

    private static void turn() {
        Rootsong song = Check.with("abcde", "", HALF + HALF);
        Check.due("10: size", song.turn(3, 0, 2), 5);
        Check.due("10: text", Check.text(song, 3), "cdeab");
        song.turn(3, 0, 0);
        Check.due("10: by 0", Check.text(song, 3), "abcde");
        song.turn(3, 0, 5);
        Check.due("10: by all", Check.text(song, 3), "abcde");
        song.turn(0, 0, 4);
        Check.due("10: itself", Check.text(song, 0), "eabcd");
        Check.due("10: an empty one", song.turn(3, 1, 0), 0);
        song.turn(3, 2, 1);
        Check.due("10: 60 signs", Check.text(song, 3), HALF.substring(1) + HALF + "0");
        for (int by : new int[] {-1, 6, Integer.MIN_VALUE, Integer.MAX_VALUE}) {
            Check.refused(song, "10: by " + by, OUTSIDE, () -> song.turn(3, 0, by));
        }
        Check.refused(song, "10: an empty one by 1", OUTSIDE, () -> song.turn(3, 1, 1));
        for (int slot : Check.noSlots()) {
            Check.refused(song, "10: slot " + slot, OUTSIDE, () -> song.turn(slot, 0, 0));
            Check.refused(song, "10: a " + slot, OUTSIDE, () -> song.turn(0, slot, 0));
        }
    }

    private static void back() {
        Rootsong song = Check.with("abcd", "", "q", HALF + HALF);
        Check.due("11: size", song.back(4, 0), 4);
        Check.due("11: text", Check.text(song, 4), "dcba");
        song.back(0, 0);
        Check.due("11: itself", Check.text(song, 0), "dcba");
        Check.due("11: an empty one", song.back(4, 1), 0);
        Check.due("11: a sign", song.back(4, 2), 1);
        song.back(4, 3);
        Check.due("11: 60 signs", Check.text(song, 4),
                new StringBuilder(HALF + HALF).reverse().toString());
        for (int slot : Check.noSlots()) {
            Check.refused(song, "11: slot " + slot, OUTSIDE, () -> song.back(slot, 0));
            Check.refused(song, "11: a " + slot, OUTSIDE, () -> song.back(0, slot));
        }
    }

    private static void put() {
        putting("abcabc", "b", "xy", "axycaxyc");
        putting("aaaaa", "aa", "b", "bba");
        putting("aaaaa", "aa", "aba", "abaabaa");
        putting("ababab", "aba", "", "bab");
        putting("abc", "abc", "", "");
        putting("abc", "abc", "q", "q");
        putting("abc", "abcd", "q", "abc");
        putting("abc", "x", "q", "abc");
        putting("", "x", "q", "");
        putting("aab", "ab", "b", "ab");
        putting(HALF, "0", HALF + "z", HALF + "z" + HALF.substring(1));
    }

    private static void putting(String text, String what, String with, String want) {
        Rootsong song = Check.with(text, what, with);
        song.join(4, 1, 1);
        String call = "12: put(" + text + ", " + what + ", " + with + ")";
        Check.due(call, song.put(3, 0, 1, 2), want.length());
        Check.due(call + " text", Check.text(song, 3), want);
        for (int slot = 0; slot < 3; slot++) {
            Rootsong again = Check.with(text, what, with);
            again.put(slot, 0, 1, 2);
            Check.due(call + " into " + slot, Check.text(again, slot), want);
        }
    }

    private static void putItself() {
        Rootsong song = Check.with("ab");
        song.put(0, 0, 0, 0);
        Check.due("12: itself for itself", Check.text(song, 0), "ab");
    }

    private static void putRefuses() {
        Rootsong song = Check.with("aa", "a", HALF + "z", "", HALF, "~");
        Check.refused(song, "12: 62 signs", IllegalStateException.class,
                () -> song.put(0, 0, 1, 2));
        Check.due("12: 60 signs", song.put(0, 0, 1, 4), 60);
        Check.due("12: too many, but not there", song.put(3, 0, 5, 2), 60);
        song.erase(3);
        Check.refused(song, "12: nothing is looked for", UnsupportedOperationException.class,
                () -> song.put(0, 2, 3, 2));
        for (int slot : Check.noSlots()) {
            Check.refused(song, "12: slot " + slot, OUTSIDE, () -> song.put(slot, 0, 3, 2));
            Check.refused(song, "12: a " + slot, OUTSIDE, () -> song.put(0, slot, 3, 2));
            Check.refused(song, "12: what " + slot, OUTSIDE, () -> song.put(0, 0, slot, 2));
            Check.refused(song, "12: with " + slot, OUTSIDE, () -> song.put(0, 0, 3, slot));
        }
    }
}
