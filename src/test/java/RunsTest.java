import java.util.Arrays;

/**
 * Runs of calls, always the same ones, each answered by Rootsong and by the model. Behind each call
 * the checksum tells whether the texts are as due; all in all a run stays within 512 calls.
 */
public final class RunsTest {
    private static final int RUNS = 1000;
    private static final int CALLS = 240;
    private static final int KINDS = 44;

    private long state;
    private String letters = "ab";
    private final Rootsong song = new Rootsong();
    private final Model model = new Model();

    private RunsTest(long seed) {
        state = seed;
    }

    public static void main(String[] args) {
        for (int run = 0; run < RUNS; run++) {
            new RunsTest(run + 1L).go(run);
        }
        Check.end("RunsTest");
    }

    private void go(int run) {
        String[] alphabets = {"a", "ab", "abc", "ab", "abcdefgh ~", "ba"};
        letters = alphabets[run % alphabets.length];
        for (int call = 0; call < CALLS; call++) {
            step("run " + run + ", call " + call);
            Check.due("checksum behind run " + run + ", call " + call, song.checksum(),
                    model.checksum());
            if (call % 8 == 7) {
                Check.due("isTrue behind run " + run + ", call " + call, song.isTrue(), true);
            }
        }
    }

    private int below(int bound) {
        state = state * 6364136223846793005L + 1442695040888963407L;
        return (int) ((state >>> 33) % bound);
    }

    private int slot() {
        int[] wrong = Check.noSlots();
        return below(60) == 0 ? wrong[below(wrong.length)] : below(6);
    }

    private int number(int most) {
        int[] far = {-1, -2, 60, 61, 1000, Integer.MAX_VALUE, Integer.MIN_VALUE};
        return below(12) == 0 ? far[below(far.length)] : below(most + 1);
    }

    /** Mostly what is about the size of a text. */
    private int place(int slot) {
        int size = slot >= 0 && slot < 6 ? model.texts[slot].length() : 6;
        return number(size + 1);
    }

    private char sign() {
        int[] far = {0, 31, 32, 126, 127, 65535};
        return below(80) == 0 ? (char) far[below(far.length)]
                : letters.charAt(below(letters.length()));
    }

    private int set() {
        int[] wrong = {-1, 64, Integer.MAX_VALUE, Integer.MIN_VALUE};
        return below(20) == 0 ? wrong[below(wrong.length)] : below(64);
    }

    private void both(String call, Check.Call one, Check.Call other) {
        Check.due(call, Check.outcome(one), Check.outcome(other));
    }

    private void step(String at) {
        int kind = below(KINDS);
        int[] slots = {slot(), slot(), slot(), slot()};
        String call = at + ", kind " + kind + " of " + Arrays.toString(slots) + " in "
                + Arrays.toString(model.texts);
        if (kind < 14) {
            change(kind, call, slots[0], slots[1], slots[2], slots[3]);
        } else if (kind < 22) {
            look(kind, call, slots[0], slots[1]);
        } else if (kind < 36) {
            tell(kind, call, slots[0], slots[1]);
        } else {
            make(kind, call, slots[0], slots[1], slots[2]);
        }
    }

    private void change(int kind, String call, int s, int a, int b, int c) {
        char sign = sign();
        int times = number(4);
        int from = place(a);
        int till = place(a);
        switch (kind) {
            case 0 -> both(call, () -> song.type(s, sign), () -> model.type(s, sign));
            case 1, 2, 3 -> more(call, s);
            case 4 -> both(call, () -> song.erase(s), () -> model.erase(s));
            case 5 -> both(call, () -> song.length(s), () -> model.length(s));
            case 6 -> both(call, () -> song.signAt(a, from), () -> model.signAt(a, from));
            case 7 -> both(call, () -> song.join(s, a, b), () -> model.join(s, a, b));
            case 8 -> both(call, () -> song.repeat(s, a, times), () -> model.repeat(s, a, times));
            case 9, 10 -> both(call, () -> song.part(s, a, from, till),
                    () -> model.part(s, a, from, till));
            case 11 -> both(call, () -> song.turn(s, a, from), () -> model.turn(s, a, from));
            case 12 -> both(call, () -> song.back(s, a), () -> model.back(s, a));
            default -> both(call, () -> song.put(s, a, b, c), () -> model.put(s, a, b, c));
        }
    }

    private void more(String call, int slot) {
        int many = number(6);
        char[] signs = {sign(), sign(), sign(), sign(), sign(), sign()};
        both(call, () -> song.typeMore(slot, many, signs[0], signs[1], signs[2], signs[3],
                signs[4], signs[5]), () -> model.typeMore(slot, many, new String(signs)));
    }

    private void look(int kind, String call, int a, int b) {
        int place = place(a);
        boolean isApart = below(2) == 0;
        switch (kind) {
            case 14 -> both(call, () -> song.first(a, b, place), () -> model.first(a, b, place));
            case 15 -> both(call, () -> song.last(a, b, place), () -> model.last(a, b, place));
            case 16 -> both(call, () -> song.many(a, b, isApart), () -> model.many(a, b, isApart));
            case 17 -> both(call, () -> song.isSame(a, b), () -> model.isSame(a, b));
            case 18 -> both(call, () -> song.compare(a, b), () -> model.compare(a, b));
            case 19 -> both(call, () -> song.common(a, b), () -> model.common(a, b));
            case 20 -> both(call, () -> song.commonEnd(a, b), () -> model.commonEnd(a, b));
            default -> both(call, () -> song.turnTo(a, b), () -> model.turnTo(a, b));
        }
    }

    private void tell(int kind, String call, int a, int b) {
        int index = place(a);
        int times = number(1000);
        switch (kind) {
            case 22 -> both(call, () -> song.hash(a), () -> model.hash(a));
            case 23 -> both(call, () -> song.hashJoined(a, b), () -> model.hashJoined(a, b));
            case 24 -> both(call, () -> song.hashRepeated(a, times),
                    () -> model.hashRepeated(a, times));
            case 25 -> both(call, () -> song.periods(a), () -> model.periods(a));
            case 26 -> both(call, () -> song.periodAt(a, index), () -> model.periodAt(a, index));
            case 27 -> both(call, () -> song.turnings(a), () -> model.turnings(a));
            case 28 -> both(call, () -> song.leastTurn(a), () -> model.leastTurn(a));
            case 29 -> both(call, () -> song.factors(a), () -> model.factors(a));
            case 30 -> both(call, () -> song.factorAt(a, index), () -> model.factorAt(a, index));
            case 31 -> both(call, () -> song.endAt(a, index), () -> model.endAt(a, index));
            case 32 -> both(call, () -> song.rankOf(a, index), () -> model.rankOf(a, index));
            case 33 -> both(call, () -> song.unlikeParts(a), () -> model.unlikeParts(a));
            case 34 -> both(call, () -> song.mirrors(a), () -> model.mirrors(a));
            default -> both(call, () -> song.rootShare(a), () -> model.rootShare(a));
        }
    }

    private void make(int kind, String call, int s, int a, int b) {
        int set = set();
        switch (kind) {
            case 36 -> both(call, () -> song.border(s, a), () -> model.border(s, a));
            case 37 -> both(call, () -> song.root(s, a), () -> model.root(s, a));
            case 38 -> both(call, () -> song.twice(s, a), () -> model.twice(s, a));
            case 39 -> both(call, () -> song.commute(a, b), () -> model.commute(a, b));
            case 40 -> both(call, () -> song.commonRoot(s, a, b), () -> model.commonRoot(s, a, b));
            case 41 -> both(call, () -> song.ways(a, set), () -> model.ways(a, set));
            case 42 -> both(call, () -> song.isFree(set), () -> model.isFree(set));
            default -> both(call, () -> song.meanPeriod(a), () -> model.meanPeriod(a));
        }
    }
}
