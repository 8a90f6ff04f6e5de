import java.lang.reflect.InvocationTargetException;
import java.lang.reflect.Method;
import java.util.Arrays;
import java.util.Comparator;
import java.util.List;

/** Runs the tests of this project, and counts the answers that are not the ones that are due. */
final class Check {
    /** A call that may throw. */
    interface Call {
        Object answer();
    }

    /** A call of an object. */
    interface SongCall {
        Object on(Rootsong song);
    }

    /** A call of an object with a number that is tried: a slot, a place, a set. */
    interface NumberCall {
        Object on(Rootsong song, int number);
    }

    static final Class<IndexOutOfBoundsException> OUTSIDE = IndexOutOfBoundsException.class;
    /** 60 signs, all unlike. */
    static final String FULL = "0123456789abcdefghijklmnopqrstuvwxyzABCDEFGHIJKLMNOPQRSTUVWX";
    /** 60 signs, all alike. */
    static final String LIKE = "x".repeat(60);
    static final int LOWEST = Integer.MIN_VALUE;
    static final int HIGHEST = Integer.MAX_VALUE;

    /** Texts in all slots, so that a call of each slot may be made that throws nothing. */
    private static final String[] SIX = {"ab", "abab", "ababab", "ab", "abababab", "abab"};
    private static final int[] NO_SLOTS = {-1, 6, 7, 64, -64, LOWEST, HIGHEST};
    private static final int MOST_PRINTED = 40;

    private static String at = "";
    private static int looked = 0;
    private static int wrong = 0;

    private Check() {
    }

    static void due(String what, Object got, Object want) {
        looked++;
        if (!want.equals(got)) {
            wrong++;
            if (wrong <= MOST_PRINTED) {
                System.out.println(at + what + " answered " + got + ", due is " + want);
            }
        }
    }

    /** What a call answers, or what it throws; told apart if the machine throws it by itself. */
    static Object outcome(Call call) {
        try {
            return call.answer();
        } catch (RuntimeException e) {
            StackTraceElement[] trace = e.getStackTrace();
            String from = trace.length == 0 ? "" : trace[0].getClassName().split("\\$")[0];
            boolean isThrown = List.of("Rootsong", "Model").contains(from);
            return (isThrown ? "" : "the machine ") + "throws " + e.getClass().getName();
        }
    }

    /** An object with these texts, in the slots from 0 on; made by 60 calls at the most. */
    static Rootsong with(String... texts) {
        Rootsong song = new Rootsong();
        for (int slot = 0; slot < texts.length; slot++) {
            String text = texts[slot];
            for (int from = 0; from < text.length(); from += 6) {
                int many = Math.min(6, text.length() - from);
                char[] signs = Arrays.copyOf(text.substring(from, from + many).toCharArray(), 6);
                song.typeMore(slot, many, signs[0], signs[1], signs[2], signs[3], signs[4],
                        signs[5]);
            }
        }
        return song;
    }

    static String text(Rootsong song, int slot) {
        StringBuilder signs = new StringBuilder();
        int size = song.length(slot);
        for (int place = 0; place < size; place++) {
            signs.append(song.signAt(slot, place));
        }
        return signs.toString();
    }

    /** All six texts, a line each. */
    static String all(Rootsong song) {
        String[] texts = new String[6];
        for (int slot = 0; slot < 6; slot++) {
            texts[slot] = text(song, slot);
        }
        return all(texts);
    }

    static String all(String... texts) {
        StringBuilder lines = new StringBuilder();
        for (int slot = 0; slot < 6; slot++) {
            lines.append(slot < texts.length ? texts[slot] : "").append('\n');
        }
        return lines.toString();
    }

    /** The call answers this and leaves these texts, in the slots from 0 on. */
    static void leaves(String what, Rootsong song, SongCall call, Object want, String... texts) {
        due(what, outcome(() -> call.on(song)), want);
        due("the texts behind " + what, all(song), all(texts));
    }

    /** On a new object with these texts, the call throws just this, and the texts are left. */
    static void refused(String what, Class<? extends RuntimeException> want, String[] texts,
            SongCall call) {
        Rootsong song = with(texts);
        due(what, outcome(() -> call.on(song)), "throws " + want.getName());
        due("the texts behind " + what, all(song), all(texts));
        due("the checksum behind " + what, song.checksum(), with(texts).checksum());
    }

    static void refusedEach(String what, Class<? extends RuntimeException> want, String[] texts,
            NumberCall call, int... numbers) {
        for (int number : numbers) {
            refused(what + " " + number, want, texts, song -> call.on(song, number));
        }
    }

    /** The slots 0 to 5 are there for this call, and no other ones. */
    static void slots(String what, NumberCall call) {
        for (int slot = 0; slot < 6; slot++) {
            int there = slot;
            Object outcome = outcome(() -> call.on(with(SIX), there));
            due(what + " " + slot + " throws", outcome.toString().contains("throws"), false);
        }
        refusedEach(what, OUTSIDE, SIX, call, NO_SLOTS);
    }

    /** Numbers that are no slot, from just outside to the farthest. */
    static int[] noSlots() {
        return NO_SLOTS.clone();
    }

    static String[] texts(String... texts) {
        return texts;
    }

    static long power(long base, int times) {
        long product = 1;
        for (int time = 0; time < times; time++) {
            product *= base;
        }
        return product;
    }

    /** Runs each test of a class, always in the same order, and ends. */
    static void run(Class<?> tests) {
        int count = 0;
        for (Method test : testsOf(tests)) {
            at = test.getName() + " (" + test.getAnnotation(Says.class).value() + "): ";
            count++;
            try {
                test.invoke(null);
            } catch (IllegalAccessException | InvocationTargetException e) {
                due("the test", e.getCause() == null ? e : e.getCause(), "no exception");
            }
        }
        at = "";
        end(tests.getSimpleName() + ", " + count + " tests");
    }

    static List<Method> testsOf(Class<?> tests) {
        return Arrays.stream(tests.getDeclaredMethods())
                .filter(method -> method.isAnnotationPresent(Says.class))
                .sorted(Comparator.comparing(Method::getName)).toList();
    }

    static void end(String name) {
        System.out.println(name + ": " + looked + " answers, " + wrong + " not as due");
        if (wrong != 0 || looked == 0) {
            System.exit(1);
        }
    }
}
