/** Promises 1 to 6: a new object, type, typeMore, erase, length, signAt. */
public final class TextsTest {
    private static final String FULL = "x".repeat(60);

    public static void main(String[] args) {
        aNewObject();
        type();
        typeMore();
        typeMoreRefuses();
        erase();
        length();
        signAt();
        Check.end("TextsTest");
    }

    private static void aNewObject() {
        Rootsong song = new Rootsong();
        for (int slot = 0; slot < 6; slot++) {
            Check.due("1: length of a new slot " + slot, song.length(slot), 0);
        }
        song.type(0, 'a');
        Check.due("1: another new object", Check.all(new Rootsong()), "\n\n\n\n\n\n");
    }

    private static void type() {
        Rootsong song = new Rootsong();
        Check.due("2: first sign", song.type(0, 'b'), 1);
        Check.due("2: second sign", song.type(0, 'a'), 2);
        Check.due("2: lowest code", song.type(5, (char) 32), 1);
        Check.due("2: highest code", song.type(5, (char) 126), 2);
        Check.due("2: the texts", Check.all(song), "ba\n\n\n\n\n ~\n");
        for (int slot : Check.noSlots()) {
            Check.refused(song, "2: slot " + slot, IndexOutOfBoundsException.class,
                    () -> song.type(slot, (char) 31));
        }
        for (int code : new int[] {0, 31, 127, 128, 255, 256 + 97, 65535}) {
            Check.refused(song, "2: code " + code, IllegalArgumentException.class,
                    () -> song.type(0, (char) code));
        }
        Rootsong full = Check.with(FULL.substring(1));
        Check.due("2: sixtieth sign", full.type(0, 'y'), 60);
        Check.refused(full, "2: too many", IllegalStateException.class, () -> full.type(0, 'y'));
        Check.refused(full, "2: wrong code, too many", IllegalArgumentException.class,
                () -> full.type(0, (char) 31));
    }

    private static void typeMore() {
        char none = 0;
        Rootsong song = new Rootsong();
        Check.due("3: one", song.typeMore(0, 1, 'a', none, none, none, none, none), 1);
        Check.due("3: two", song.typeMore(0, 2, 'b', 'c', none, none, none, none), 3);
        Check.due("3: three", song.typeMore(0, 3, 'd', 'e', 'f', none, none, none), 6);
        Check.due("3: four", song.typeMore(0, 4, 'g', 'h', 'i', 'j', none, none), 10);
        Check.due("3: five", song.typeMore(0, 5, 'k', 'l', 'm', 'n', 'o', none), 15);
        Check.due("3: six", song.typeMore(0, 6, 'p', 'q', 'r', 's', ' ', '~'), 21);
        Check.due("3: the text", Check.text(song, 0), "abcdefghijklmnopqrs ~");
        Rootsong full = Check.with(FULL.substring(6));
        Check.due("3: up to 60", full.typeMore(0, 6, 'a', 'b', 'c', 'd', 'e', 'f'), 60);
    }

    private static void typeMoreRefuses() {
        Rootsong song = Check.with("abc", FULL.substring(3));
        for (int slot : Check.noSlots()) {
            Check.refused(song, "3: slot " + slot, IndexOutOfBoundsException.class,
                    () -> song.typeMore(slot, 0, 'a', 'b', 'c', 'd', 'e', 'f'));
        }
        for (int many : new int[] {0, 7, -1, Integer.MAX_VALUE, Integer.MIN_VALUE}) {
            Check.refused(song, "3: so many " + many, IllegalArgumentException.class,
                    () -> song.typeMore(1, many, 'a', 'b', 'c', 'd', 'e', 'f'));
        }
        char wrong = 127;
        Check.refused(song, "3: wrong first", IllegalArgumentException.class,
                () -> song.typeMore(0, 6, wrong, 'b', 'c', 'd', 'e', 'f'));
        Check.refused(song, "3: wrong fourth, too many", IllegalArgumentException.class,
                () -> song.typeMore(1, 4, 'a', 'b', 'c', (char) 31, 'e', 'f'));
        Check.refused(song, "3: wrong last", IllegalArgumentException.class,
                () -> song.typeMore(0, 6, 'a', 'b', 'c', 'd', 'e', wrong));
        Check.refused(song, "3: too many", IllegalStateException.class,
                () -> song.typeMore(1, 4, 'a', 'b', 'c', 'd', wrong, wrong));
        Check.due("3: as many as there is room for",
                song.typeMore(1, 3, 'a', 'b', 'c', wrong, wrong, wrong), 60);
    }

    private static void erase() {
        Rootsong song = Check.with("abc", "", FULL);
        Check.due("4: some", song.erase(0), 3);
        Check.due("4: none", song.erase(1), 0);
        Check.due("4: the texts", Check.all(song), "\n\n" + FULL + "\n\n\n\n");
        Check.due("4: all", song.erase(2), 60);
        Check.due("4: type behind it", song.type(2, 'q'), 1);
        Check.due("4: the text behind it", Check.text(song, 2), "q");
        for (int slot : Check.noSlots()) {
            Check.refused(song, "4: slot " + slot, IndexOutOfBoundsException.class,
                    () -> song.erase(slot));
        }
    }

    private static void length() {
        Rootsong song = Check.with("abc", "", FULL, "", "", "ab");
        Check.due("5: some", song.length(0), 3);
        Check.due("5: none", song.length(1), 0);
        Check.due("5: all", song.length(2), 60);
        Check.due("5: the last slot", song.length(5), 2);
        for (int slot : Check.noSlots()) {
            Check.thrown("5: slot " + slot, IndexOutOfBoundsException.class,
                    () -> song.length(slot));
        }
    }

    private static void signAt() {
        Rootsong song = Check.with("abc", "", FULL);
        Check.due("6: first", song.signAt(0, 0), 'a');
        Check.due("6: last", song.signAt(0, 2), 'c');
        Check.due("6: sixtieth", song.signAt(2, 59), 'x');
        song.part(2, 2, 0, 5);
        for (int place : new int[] {-1, 5, 6, 59, 60, Integer.MIN_VALUE, Integer.MAX_VALUE}) {
            Check.thrown("6: place " + place, IndexOutOfBoundsException.class,
                    () -> song.signAt(2, place));
        }
        Check.thrown("6: of an empty text", IndexOutOfBoundsException.class,
                () -> song.signAt(1, 0));
        for (int slot : Check.noSlots()) {
            Check.thrown("6: slot " + slot, IndexOutOfBoundsException.class,
                    () -> song.signAt(slot, 0));
        }
    }
}
