/** Counts the answers that are not the ones that are due, for the tests of this project. */
final class Check {
    /** A call that may throw. */
    interface Call {
        Object answer();
    }

    private static final int MOST_PRINTED = 40;

    private static int looked = 0;
    private static int wrong = 0;

    private Check() {
    }

    static void due(String what, Object got, Object want) {
        looked++;
        if (!want.equals(got)) {
            wrong++;
            if (wrong <= MOST_PRINTED) {
                System.out.println(what + " answered " + got + ", due is " + want);
            }
        }
    }

    /** Just this class of exception is due, none below it: the machine's own ones stand there. */
    static void thrown(String what, Class<? extends RuntimeException> want, Call call) {
        due(what, outcome(call), "throws " + want.getName());
    }

    static Object outcome(Call call) {
        try {
            return call.answer();
        } catch (RuntimeException e) {
            return "throws " + e.getClass().getName();
        }
    }

    static boolean isThrown(Object outcome) {
        return outcome instanceof String text && text.startsWith("throws ");
    }

    static Rootsong with(String... texts) {
        Rootsong song = new Rootsong();
        for (int slot = 0; slot < texts.length; slot++) {
            for (char sign : texts[slot].toCharArray()) {
                song.type(slot, sign);
            }
        }
        return song;
    }

    static String text(Rootsong song, int slot) {
        StringBuilder signs = new StringBuilder();
        for (int place = 0; place < song.length(slot); place++) {
            signs.append(song.signAt(slot, place));
        }
        return signs.toString();
    }

    static String all(Rootsong song) {
        StringBuilder texts = new StringBuilder();
        for (int slot = 0; slot < 6; slot++) {
            texts.append(text(song, slot)).append('\n');
        }
        return texts.toString();
    }

    /** The call throws this, and the texts are what they were. */
    static void refused(Rootsong song, String what, Class<? extends RuntimeException> want,
            Call call) {
        String before = all(song);
        thrown(what, want, call);
        due("the texts behind " + what, all(song), before);
    }

    /** Each number that is no slot, from just outside to the farthest. */
    static int[] noSlots() {
        return new int[] {-1, 6, 7, 64, Integer.MIN_VALUE, Integer.MAX_VALUE};
    }

    static void end(String name) {
        System.out.println(name + ": " + looked + " answers, " + wrong + " not as due");
        if (wrong != 0 || looked == 0) {
            System.exit(1);
        }
    }
}
