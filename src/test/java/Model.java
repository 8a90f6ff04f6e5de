import java.util.ArrayDeque;
import java.util.ArrayList;
import java.util.Arrays;
import java.util.Deque;
import java.util.HashSet;
import java.util.List;
import java.util.NoSuchElementException;
import java.util.Set;
import java.util.TreeSet;

/** What the document says, by other ways than those of Rootsong, over String and its library. */
final class Model {
    final String[] texts = {"", "", "", "", "", ""};

    private static void slots(int... slots) {
        for (int slot : slots) {
            if (slot < 0 || slot > 5) {
                throw new IndexOutOfBoundsException();
            }
        }
    }

    private static void sets(int set) {
        if (set < 0 || set > 63) {
            throw new IllegalArgumentException();
        }
    }

    private int become(int slot, String text) {
        if (text.length() > 60) {
            throw new IllegalStateException();
        }
        texts[slot] = text;
        return text.length();
    }

    int type(int slot, char sign) {
        slots(slot);
        if (sign < 32 || sign > 126) {
            throw new IllegalArgumentException();
        }
        return become(slot, texts[slot] + sign);
    }

    int typeMore(int slot, int many, String signs) {
        slots(slot);
        if (many < 1 || many > 6) {
            throw new IllegalArgumentException();
        }
        String typed = signs.substring(0, many);
        if (typed.chars().anyMatch(code -> code < 32 || code > 126)) {
            throw new IllegalArgumentException();
        }
        return become(slot, texts[slot] + typed);
    }

    int erase(int slot) {
        slots(slot);
        int size = texts[slot].length();
        texts[slot] = "";
        return size;
    }

    int length(int slot) {
        slots(slot);
        return texts[slot].length();
    }

    char signAt(int slot, int place) {
        slots(slot);
        if (place < 0 || place >= texts[slot].length()) {
            throw new IndexOutOfBoundsException();
        }
        return texts[slot].charAt(place);
    }

    int join(int slot, int a, int b) {
        slots(slot, a, b);
        return become(slot, texts[a] + texts[b]);
    }

    int repeat(int slot, int a, int times) {
        slots(slot, a);
        if (times < 0) {
            throw new IllegalArgumentException();
        }
        return become(slot, texts[a].repeat(texts[a].isEmpty() ? 0 : Math.min(times, 61)));
    }

    int part(int slot, int a, int from, int till) {
        slots(slot, a);
        if (from < 0 || from > till || till > texts[a].length()) {
            throw new IndexOutOfBoundsException();
        }
        return become(slot, texts[a].substring(from, till));
    }

    int turn(int slot, int a, int by) {
        slots(slot, a);
        if (by < 0 || by > texts[a].length()) {
            throw new IndexOutOfBoundsException();
        }
        return become(slot, turned(texts[a], by));
    }

    private static String turned(String text, int by) {
        return text.substring(by) + text.substring(0, by);
    }

    int back(int slot, int a) {
        slots(slot, a);
        return become(slot, backwards(texts[a]));
    }

    private static String backwards(String text) {
        return new StringBuilder(text).reverse().toString();
    }

    private static void notEmpty(String text) {
        if (text.isEmpty()) {
            throw new UnsupportedOperationException();
        }
    }

    int put(int slot, int a, int what, int with) {
        slots(slot, a, what, with);
        notEmpty(texts[what]);
        return become(slot, texts[a].replace(texts[what], texts[with]));
    }

    int first(int a, int what, int from) {
        slots(a, what);
        return texts[a].indexOf(texts[what], from);
    }

    int last(int a, int what, int till) {
        slots(a, what);
        return texts[a].lastIndexOf(texts[what], till);
    }

    int many(int a, int what, boolean isApart) {
        slots(a, what);
        notEmpty(texts[what]);
        int step = isApart ? texts[what].length() : 1;
        int count = 0;
        int place = texts[a].indexOf(texts[what]);
        while (place >= 0) {
            count++;
            place = texts[a].indexOf(texts[what], place + step);
        }
        return count;
    }

    boolean isSame(int a, int b) {
        slots(a, b);
        return texts[a].equals(texts[b]);
    }

    int compare(int a, int b) {
        slots(a, b);
        return texts[a].compareTo(texts[b]);
    }

    int common(int a, int b) {
        slots(a, b);
        int size = 0;
        for (int n = 1; n <= texts[a].length(); n++) {
            size = texts[b].startsWith(texts[a].substring(0, n)) ? n : size;
        }
        return size;
    }

    int commonEnd(int a, int b) {
        slots(a, b);
        int size = 0;
        for (int n = 1; n <= texts[a].length(); n++) {
            size = texts[b].endsWith(texts[a].substring(texts[a].length() - n)) ? n : size;
        }
        return size;
    }

    int hash(int a) {
        slots(a);
        return texts[a].hashCode();
    }

    int hashJoined(int a, int b) {
        slots(a, b);
        return (texts[a] + texts[b]).hashCode();
    }

    int hashRepeated(int a, int times) {
        slots(a);
        if (times < 0 || times > 1000) {
            throw new IllegalArgumentException();
        }
        return texts[a].repeat(times).hashCode();
    }

    /** A number is a period if the text less so many signs at its end is an end of it. */
    private static List<Integer> periodsOf(String text) {
        List<Integer> periods = new ArrayList<>();
        for (int number = 1; number <= text.length(); number++) {
            if (text.endsWith(text.substring(0, text.length() - number))) {
                periods.add(number);
            }
        }
        return periods;
    }

    private static <T> T itemOf(List<T> items, int index) {
        if (index < 0 || index >= items.size()) {
            throw new NoSuchElementException();
        }
        return items.get(index);
    }

    int periods(int a) {
        slots(a);
        return periodsOf(texts[a]).size();
    }

    int periodAt(int a, int index) {
        slots(a);
        return itemOf(periodsOf(texts[a]), index);
    }

    int border(int slot, int a) {
        slots(slot, a);
        notEmpty(texts[a]);
        String text = texts[a];
        int size = text.length() - 1;
        while (!text.startsWith(text.substring(text.length() - size))) {
            size--;
        }
        return become(slot, text.substring(0, size));
    }

    /** The second place of a text in itself joined to itself tells how many signs the root has. */
    private static String rootOf(String text) {
        return text.substring(0, (text + text).indexOf(text, 1));
    }

    int root(int slot, int a) {
        slots(slot, a);
        notEmpty(texts[a]);
        String text = texts[a];
        int size = become(slot, rootOf(text));
        return text.length() / size;
    }

    int turnTo(int a, int b) {
        slots(a, b);
        return texts[a].length() == texts[b].length()
                ? (texts[a] + texts[a]).indexOf(texts[b]) : -1;
    }

    private static List<String> turnsOf(String text) {
        List<String> turns = new ArrayList<>();
        for (int by = 0; by <= text.length(); by++) {
            turns.add(turned(text, by));
        }
        return turns;
    }

    int turnings(int a) {
        slots(a);
        return new HashSet<>(turnsOf(texts[a])).size();
    }

    int leastTurn(int a) {
        slots(a);
        List<String> turns = turnsOf(texts[a]);
        return turns.indexOf(new TreeSet<>(turns).first());
    }

    /** A factor begins where an end is less than every longer one. */
    private static List<Integer> factorsOf(String text) {
        List<Integer> factors = new ArrayList<>();
        String least = null;
        for (int place = 0; place < text.length(); place++) {
            String end = text.substring(place);
            if (least == null || end.compareTo(least) < 0) {
                least = end;
                factors.add(place);
            }
        }
        return factors;
    }

    int factors(int a) {
        slots(a);
        return factorsOf(texts[a]).size();
    }

    int factorAt(int a, int index) {
        slots(a);
        return itemOf(factorsOf(texts[a]), index);
    }

    private static List<String> endsOf(String text) {
        TreeSet<String> ends = new TreeSet<>();
        for (int place = 0; place < text.length(); place++) {
            ends.add(text.substring(place));
        }
        return new ArrayList<>(ends);
    }

    int endAt(int a, int index) {
        slots(a);
        return texts[a].length() - itemOf(endsOf(texts[a]), index).length();
    }

    int rankOf(int a, int place) {
        slots(a);
        if (place < 0 || place >= texts[a].length()) {
            throw new IndexOutOfBoundsException();
        }
        return endsOf(texts[a]).indexOf(texts[a].substring(place));
    }

    private static Set<String> partsOf(String text) {
        Set<String> parts = new HashSet<>();
        for (int from = 0; from < text.length(); from++) {
            for (int till = from + 1; till <= text.length(); till++) {
                parts.add(text.substring(from, till));
            }
        }
        return parts;
    }

    int unlikeParts(int a) {
        slots(a);
        return partsOf(texts[a]).size();
    }

    int twice(int slot, int a) {
        slots(slot, a);
        String best = "";
        for (String part : partsOf(texts[a])) {
            boolean isTwice = texts[a].indexOf(part) != texts[a].lastIndexOf(part);
            boolean isBetter = part.length() > best.length()
                    || part.length() == best.length() && part.compareTo(best) < 0;
            best = isTwice && isBetter ? part : best;
        }
        return become(slot, best);
    }

    int mirrors(int a) {
        slots(a);
        return (int) partsOf(texts[a]).stream()
                .filter(part -> part.equals(backwards(part))).count();
    }

    boolean commute(int a, int b) {
        slots(a, b);
        return (texts[a] + texts[b]).equals(texts[b] + texts[a]);
    }

    private static boolean isRepeat(String text, String of) {
        return text.replace(of, "").isEmpty();
    }

    int commonRoot(int slot, int a, int b) {
        slots(slot, a, b);
        String longer = texts[a].length() > texts[b].length() ? texts[a] : texts[b];
        for (int size = 1; size <= longer.length(); size++) {
            String root = longer.substring(0, size);
            if (isRepeat(texts[a], root) && isRepeat(texts[b], root)) {
                return become(slot, root);
            }
        }
        throw new UnsupportedOperationException();
    }

    long ways(int a, int set) {
        slots(a);
        sets(set);
        String text = texts[a];
        long[] rows = new long[text.length() + 1];
        rows[text.length()] = 1;
        for (int from = text.length() - 1; from >= 0; from--) {
            for (int slot : usedOf(set)) {
                if (text.startsWith(texts[slot], from)) {
                    rows[from] += rows[from + texts[slot].length()];
                }
            }
        }
        return rows[0];
    }

    private List<Integer> usedOf(int set) {
        List<Integer> used = new ArrayList<>();
        for (int slot = 0; slot < 6; slot++) {
            if ((set & 1 << slot) != 0 && !texts[slot].isEmpty()) {
                used.add(slot);
            }
        }
        return used;
    }

    /**
     * Two rows are read sign by sign at once, each at a place of one of its slots, or (0) between
     * two. They make the same text unlike each other if both can be between two slots again, once
     * they have been at unlike places.
     */
    boolean isFree(int set) {
        sets(set);
        List<Integer> used = usedOf(set);
        Set<Integer> seen = new HashSet<>();
        Deque<Integer> waiting = new ArrayDeque<>();
        waiting.add(0);
        while (!waiting.isEmpty()) {
            int state = waiting.remove();
            boolean wereUnlike = (state & 1) == 1;
            for (int one : stepsOf(used, state >> 1 & 511)) {
                for (int other : stepsOf(used, state >> 10)) {
                    if (signBehind(one) == signBehind(other)) {
                        boolean areUnlike = wereUnlike || one != other;
                        int next = settled(other) << 10 | settled(one) << 1 | (areUnlike ? 1 : 0);
                        if (next == 1) {
                            return false;
                        }
                        if (seen.add(next)) {
                            waiting.add(next);
                        }
                    }
                }
            }
        }
        return true;
    }

    /** States of one row: 0 between two slots, else 61 times the slot, how many read, and 1. */
    private static int[] stepsOf(List<Integer> used, int state) {
        if (state != 0) {
            return new int[] {state + 1};
        }
        return used.stream().mapToInt(slot -> slot * 61 + 2).toArray();
    }

    private char signBehind(int state) {
        return texts[(state - 2) / 61].charAt((state - 2) % 61);
    }

    private int settled(int state) {
        boolean isWhole = (state - 2) % 61 + 1 == texts[(state - 2) / 61].length();
        return isWhole ? 0 : state;
    }

    float rootShare(int a) {
        slots(a);
        if (texts[a].isEmpty()) {
            throw new ArithmeticException();
        }
        return (float) rootOf(texts[a]).length() / (float) texts[a].length();
    }

    double meanPeriod(int a) {
        slots(a);
        List<Integer> periods = periodsOf(texts[a]);
        if (periods.isEmpty()) {
            throw new ArithmeticException();
        }
        int sum = periods.stream().mapToInt(Integer::intValue).sum();
        return (double) sum / (double) periods.size();
    }

    long checksum() {
        long sum = 7;
        for (String text : texts) {
            for (long item : Arrays.asList((long) text.length(), (long) text.hashCode(),
                    (long) periodsOf(text).size())) {
                sum = 31 * sum + item;
            }
        }
        return sum;
    }
}
