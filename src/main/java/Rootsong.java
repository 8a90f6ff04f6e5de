import java.util.NoSuchElementException;

/**
 * Six texts, each a row of at most 60 signs, that are joined, repeated, turned, put backwards,
 * looked through, put in order and told by numbers. Every row that a call needs is made with the
 * object and used again, so that a call makes no object but the exception that it throws.
 */
public final class Rootsong {
    private static final int SLOTS = 6;
    private static final int MOST = 60;
    private static final int LOWEST_CODE = 32;
    private static final int HIGHEST_CODE = 126;
    private static final int MOST_TYPED = 6;
    private static final int MOST_TIMES = 1000;
    private static final int HIGHEST_SET = 63;
    private static final int HASH_STEP = 31;
    private static final long CHECKSUM_START = 7L;

    private final Text[] texts = new Text[SLOTS];
    // What a slot becomes is built apart from it, as the slot may be one of those that are read.
    private final Text built = new Text();
    private final Ends ends = new Ends();
    private final Making making = new Making();

    public Rootsong() {
        for (int slot = 0; slot < SLOTS; slot++) {
            texts[slot] = new Text();
        }
    }

    // texts

    public int type(int slot, char sign)
            throws IndexOutOfBoundsException, IllegalArgumentException, IllegalStateException {
        Text text = textOf(slot);
        requireSign(sign);
        requireRoom(text.size() + 1);
        text.add(sign);
        return text.size();
    }

    public int typeMore(int slot, int many, char c, char d, char e, char f, char g, char h)
            throws IndexOutOfBoundsException, IllegalArgumentException, IllegalStateException {
        Text text = textOf(slot);
        if (many < 1 || many > MOST_TYPED) {
            throw new IllegalArgumentException("not 1 to 6 signs");
        }
        built.clear();
        built.add(c);
        built.add(d);
        built.add(e);
        built.add(f);
        built.add(g);
        built.add(h);
        for (int place = 0; place < many; place++) {
            requireSign(built.signOn(place));
        }
        requireRoom(text.size() + many);
        text.addPart(built, 0, many);
        return text.size();
    }

    public int erase(int slot) throws IndexOutOfBoundsException {
        Text text = textOf(slot);
        int size = text.size();
        text.clear();
        return size;
    }

    public int length(int slot) throws IndexOutOfBoundsException {
        return textOf(slot).size();
    }

    public char signAt(int slot, int place) throws IndexOutOfBoundsException {
        Text text = textOf(slot);
        requirePlace(text, place);
        return text.signOn(place);
    }

    // making

    public int join(int slot, int a, int b)
            throws IndexOutOfBoundsException, IllegalStateException {
        Text target = textOf(slot);
        Text text = textOf(a);
        Text other = textOf(b);
        requireRoom(text.size() + other.size());
        built.clear();
        built.addAll(text);
        built.addAll(other);
        return becomeBuilt(target);
    }

    public int repeat(int slot, int a, int times)
            throws IndexOutOfBoundsException, IllegalArgumentException, IllegalStateException {
        Text target = textOf(slot);
        Text text = textOf(a);
        if (times < 0) {
            throw new IllegalArgumentException("a text can't be repeated less than 0 times");
        }
        // An empty text may be repeated two billion times: that must not be walked through.
        int copies = text.isEmpty() ? 0 : times;
        requireRoom((long) text.size() * copies);
        built.clear();
        for (int copy = 0; copy < copies; copy++) {
            built.addAll(text);
        }
        return becomeBuilt(target);
    }

    public int part(int slot, int a, int from, int till) throws IndexOutOfBoundsException {
        Text target = textOf(slot);
        Text text = textOf(a);
        if (from < 0 || from > till || till > text.size()) {
            throw new IndexOutOfBoundsException("no such part");
        }
        return becomePart(target, text, from, till);
    }

    public int turn(int slot, int a, int by) throws IndexOutOfBoundsException {
        Text target = textOf(slot);
        Text text = textOf(a);
        if (by < 0 || by > text.size()) {
            throw new IndexOutOfBoundsException("no text is turned by so much");
        }
        built.clear();
        built.addPart(text, by, text.size());
        built.addPart(text, 0, by);
        return becomeBuilt(target);
    }

    public int back(int slot, int a) throws IndexOutOfBoundsException {
        Text target = textOf(slot);
        Text text = textOf(a);
        built.clear();
        for (int place = text.size() - 1; place >= 0; place--) {
            built.add(text.signOn(place));
        }
        return becomeBuilt(target);
    }

    public int put(int slot, int a, int what, int with)
            throws IndexOutOfBoundsException, UnsupportedOperationException, IllegalStateException {
        Text target = textOf(slot);
        Text text = textOf(a);
        Text sought = textOf(what);
        Text instead = textOf(with);
        requireNotEmpty(sought);
        int found = text.countOf(sought, true);
        requireRoom(text.size() + found * (instead.size() - sought.size()));
        buildInstead(text, sought, instead);
        return becomeBuilt(target);
    }

    // looking

    public int first(int a, int what, int from) throws IndexOutOfBoundsException {
        Text text = textOf(a);
        Text sought = textOf(what);
        int lastPlace = text.size() - sought.size();
        for (int place = Math.max(0, Math.min(from, text.size())); place <= lastPlace; place++) {
            if (text.hasAt(place, sought)) {
                return place;
            }
        }
        return -1;
    }

    public int last(int a, int what, int till) throws IndexOutOfBoundsException {
        Text text = textOf(a);
        Text sought = textOf(what);
        for (int place = Math.min(till, text.size() - sought.size()); place >= 0; place--) {
            if (text.hasAt(place, sought)) {
                return place;
            }
        }
        return -1;
    }

    public int many(int a, int what, boolean isApart)
            throws IndexOutOfBoundsException, UnsupportedOperationException {
        Text text = textOf(a);
        Text sought = textOf(what);
        requireNotEmpty(sought);
        return text.countOf(sought, isApart);
    }

    public boolean isSame(int a, int b) throws IndexOutOfBoundsException {
        return textOf(a).compareWith(textOf(b)) == 0;
    }

    public int compare(int a, int b) throws IndexOutOfBoundsException {
        return textOf(a).compareWith(textOf(b));
    }

    public int common(int a, int b) throws IndexOutOfBoundsException {
        return textOf(a).alike(0, textOf(b), 0);
    }

    public int commonEnd(int a, int b) throws IndexOutOfBoundsException {
        return textOf(a).alikeAtEnd(textOf(b));
    }

    // numbers

    public int hash(int a) throws IndexOutOfBoundsException {
        return textOf(a).hashFrom(0);
    }

    public int hashJoined(int a, int b) throws IndexOutOfBoundsException {
        Text text = textOf(a);
        Text other = textOf(b);
        return other.hashFrom(text.hashFrom(0));
    }

    public int hashRepeated(int a, int times)
            throws IndexOutOfBoundsException, IllegalArgumentException {
        Text text = textOf(a);
        if (times < 0 || times > MOST_TIMES) {
            throw new IllegalArgumentException("not 0 to 1000 times");
        }
        int number = text.hashFrom(0);
        int step = text.hashFactor();
        int sum = 0;
        for (int copy = 0; copy < times; copy++) {
            sum = sum * step + number;
        }
        return sum;
    }

    // periods

    public int periods(int a) throws IndexOutOfBoundsException {
        return textOf(a).countPeriods();
    }

    public int periodAt(int a, int index)
            throws IndexOutOfBoundsException, NoSuchElementException {
        Text text = textOf(a);
        int ahead = 0;
        for (int number = 1; number <= text.size(); number++) {
            if (text.hasPeriod(number)) {
                if (ahead == index) {
                    return number;
                }
                ahead++;
            }
        }
        throw new NoSuchElementException("no such period");
    }

    public int border(int slot, int a)
            throws IndexOutOfBoundsException, UnsupportedOperationException {
        Text target = textOf(slot);
        Text text = textOf(a);
        requireNotEmpty(text);
        return becomePart(target, text, text.leastPeriod(), text.size());
    }

    public int root(int slot, int a)
            throws IndexOutOfBoundsException, UnsupportedOperationException {
        Text target = textOf(slot);
        Text text = textOf(a);
        requireNotEmpty(text);
        int rootSize = text.rootSize();
        int times = rootSize > 0 ? text.size() / rootSize : 0;
        becomePart(target, text, 0, rootSize);
        return times;
    }

    // turning

    public int turnTo(int a, int b) throws IndexOutOfBoundsException {
        Text text = textOf(a);
        Text other = textOf(b);
        for (int by = 0; by <= text.size(); by++) {
            if (text.isTurnedTo(by, other)) {
                return by;
            }
        }
        return -1;
    }

    public int turnings(int a) throws IndexOutOfBoundsException {
        Text text = textOf(a);
        // Turned by as much as its root has, a text is itself for the first time again.
        return text.isEmpty() ? 1 : text.rootSize();
    }

    public int leastTurn(int a) throws IndexOutOfBoundsException {
        Text text = textOf(a);
        int least = 0;
        for (int by = 1; by < text.size(); by++) {
            if (text.compareTurns(by, least) < 0) {
                least = by;
            }
        }
        return least;
    }

    public int factors(int a) throws IndexOutOfBoundsException {
        return Factors.countIn(textOf(a));
    }

    public int factorAt(int a, int index)
            throws IndexOutOfBoundsException, NoSuchElementException {
        Text text = textOf(a);
        int place = index < 0 ? text.size() : Factors.beginOf(text, index);
        if (place >= text.size()) {
            throw new NoSuchElementException("no such factor");
        }
        return place;
    }

    public int endAt(int a, int index)
            throws IndexOutOfBoundsException, NoSuchElementException {
        Text text = textOf(a);
        if (index < 0 || index >= text.size()) {
            throw new NoSuchElementException("no such end");
        }
        ends.arrange(text);
        return ends.placeBy(index);
    }

    public int rankOf(int a, int place) throws IndexOutOfBoundsException {
        Text text = textOf(a);
        requirePlace(text, place);
        ends.arrange(text);
        return ends.rankBy(place);
    }

    // parts

    public int unlikeParts(int a) throws IndexOutOfBoundsException {
        Text text = textOf(a);
        ends.arrange(text);
        int count = 0;
        for (int index = 0; index < text.size(); index++) {
            count += text.size() - ends.placeBy(index) - ends.sharedBefore(text, index);
        }
        return count;
    }

    public int twice(int slot, int a) throws IndexOutOfBoundsException {
        Text target = textOf(slot);
        Text text = textOf(a);
        ends.arrange(text);
        int size = 0;
        int from = 0;
        // The ends come in their order: the first one of several as long begins with the least.
        for (int index = 1; index < text.size(); index++) {
            int shared = ends.sharedBefore(text, index);
            if (shared > size) {
                size = shared;
                from = ends.placeBy(index);
            }
        }
        return becomePart(target, text, from, from + size);
    }

    public int mirrors(int a) throws IndexOutOfBoundsException {
        Text text = textOf(a);
        ends.arrange(text);
        int count = 0;
        for (int index = 0; index < text.size(); index++) {
            int from = ends.placeBy(index);
            // What the end ahead begins with too has been counted there.
            int shortest = from + ends.sharedBefore(text, index) + 1;
            for (int till = shortest; till <= text.size(); till++) {
                if (text.isMirror(from, till)) {
                    count++;
                }
            }
        }
        return count;
    }

    // making of texts

    public boolean commute(int a, int b) throws IndexOutOfBoundsException {
        return Roots.doCommute(textOf(a), textOf(b));
    }

    public int commonRoot(int slot, int a, int b)
            throws IndexOutOfBoundsException, UnsupportedOperationException {
        Text target = textOf(slot);
        Text text = textOf(a);
        Text other = textOf(b);
        int size = Roots.sharedSize(text, other);
        if (size == 0) {
            throw new UnsupportedOperationException("no common root");
        }
        return becomePart(target, text.isEmpty() ? other : text, 0, size);
    }

    public long ways(int a, int set)
            throws IndexOutOfBoundsException, IllegalArgumentException {
        Text text = textOf(a);
        requireSet(set);
        return making.countRows(text, texts, set);
    }

    public boolean isFree(int set) throws IllegalArgumentException {
        requireSet(set);
        return making.areFree(texts, set);
    }

    // figures

    public float rootShare(int a) throws IndexOutOfBoundsException, ArithmeticException {
        Text text = textOf(a);
        if (text.isEmpty()) {
            throw new ArithmeticException("an empty text has no root");
        }
        return (float) text.rootSize() / (float) text.size();
    }

    public double meanPeriod(int a) throws IndexOutOfBoundsException, ArithmeticException {
        Text text = textOf(a);
        int count = text.countPeriods();
        if (count == 0) {
            throw new ArithmeticException("an empty text has no period");
        }
        return (double) text.sumPeriods() / (double) count;
    }

    public long checksum() {
        long sum = CHECKSUM_START;
        for (int slot = 0; slot < SLOTS; slot++) {
            Text text = texts[slot];
            sum = sum * HASH_STEP + text.size();
            sum = sum * HASH_STEP + text.hashFrom(0);
            sum = sum * HASH_STEP + text.countPeriods();
        }
        return sum;
    }

    public boolean isTrue() {
        for (int slot = 0; slot < SLOTS; slot++) {
            if (!Factors.areTrue(texts[slot])) {
                return false;
            }
            for (int other = 0; other < slot; other++) {
                if (!Roots.areTrue(texts[slot], texts[other])) {
                    return false;
                }
            }
        }
        return true;
    }

    private Text textOf(int slot) {
        if (slot < 0 || slot >= SLOTS) {
            throw new IndexOutOfBoundsException("no such slot");
        }
        return texts[slot];
    }

    private int becomeBuilt(Text target) {
        target.become(built);
        return target.size();
    }

    private int becomePart(Text target, Text text, int from, int till) {
        built.clear();
        built.addPart(text, from, till);
        return becomeBuilt(target);
    }

    private void buildInstead(Text text, Text sought, Text instead) {
        built.clear();
        int free = 0;
        for (int place = 0; place < text.size(); place++) {
            if (place >= free) {
                if (text.hasAt(place, sought)) {
                    built.addAll(instead);
                    free = place + sought.size();
                } else {
                    built.add(text.signOn(place));
                }
            }
        }
    }

    private static void requireSign(char sign) {
        if (sign < LOWEST_CODE || sign > HIGHEST_CODE) {
            throw new IllegalArgumentException("a sign's code is not 32 to 126");
        }
    }

    private static void requireRoom(long size) {
        if (size > MOST) {
            throw new IllegalStateException("more than 60 signs");
        }
    }

    private static void requirePlace(Text text, int place) {
        if (place < 0 || place >= text.size()) {
            throw new IndexOutOfBoundsException("no such place");
        }
    }

    private static void requireNotEmpty(Text text) {
        if (text.isEmpty()) {
            throw new UnsupportedOperationException("the text is empty");
        }
    }

    private static void requireSet(int set) {
        if (set < 0 || set > HIGHEST_SET) {
            throw new IllegalArgumentException("the set is not 0 to 63");
        }
    }

    /** A row of at most 60 signs. */
    private static final class Text {
        // Less than every sign, as a text is less than the longer ones that it begins.
        private static final char NO_SIGN = 0;

        private final char[] signs = new char[MOST];
        private int size = 0;

        int size() {
            return size;
        }

        boolean isEmpty() {
            return size == 0;
        }

        char signOn(int place) {
            return place < 0 || place >= size ? NO_SIGN : signs[place];
        }

        void clear() {
            size = 0;
        }

        void add(char sign) {
            if (size < MOST) {
                signs[size] = sign;
                size++;
            }
        }

        void addPart(Text other, int from, int till) {
            for (int place = from; place < till; place++) {
                add(other.signOn(place));
            }
        }

        void addAll(Text other) {
            addPart(other, 0, other.size);
        }

        void become(Text other) {
            clear();
            addAll(other);
        }

        /** How many signs are the same, one by one, from a place on and from one of another text. */
        int alike(int from, Text other, int otherFrom) {
            int most = Math.min(size - from, other.size - otherFrom);
            int count = 0;
            while (count < most && signOn(from + count) == other.signOn(otherFrom + count)) {
                count++;
            }
            return count;
        }

        int alikeAtEnd(Text other) {
            int most = Math.min(size, other.size);
            int count = 0;
            while (count < most
                    && signOn(size - 1 - count) == other.signOn(other.size - 1 - count)) {
                count++;
            }
            return count;
        }

        boolean hasAt(int place, Text sought) {
            return alike(place, sought, 0) == sought.size;
        }

        int countOf(Text sought, boolean isApart) {
            int count = 0;
            int free = 0;
            for (int place = 0; place <= size - sought.size; place++) {
                if (place >= free && hasAt(place, sought)) {
                    count++;
                    free = isApart ? place + sought.size : place;
                }
            }
            return count;
        }

        int compareWith(Text other) {
            int shared = alike(0, other, 0);
            if (shared < size && shared < other.size) {
                return signOn(shared) - other.signOn(shared);
            }
            return size - other.size;
        }

        /** Below 0 if the part up to ahead of till is less than the one from there on. */
        int compareNeighbours(int from, int till, int otherTill) {
            int most = Math.min(till - from, otherTill - till);
            int shared = Math.min(alike(from, this, till), most);
            if (shared < most) {
                return signOn(from + shared) - signOn(till + shared);
            }
            return (till - from) - (otherTill - till);
        }

        /** Goes on from the number of what stands ahead of the text. */
        int hashFrom(int ahead) {
            int number = ahead;
            for (int place = 0; place < size; place++) {
                number = number * HASH_STEP + signOn(place);
            }
            return number;
        }

        /** What the number of a text is multiplied by when this one is put behind it. */
        int hashFactor() {
            int factor = 1;
            for (int place = 0; place < size; place++) {
                factor *= HASH_STEP;
            }
            return factor;
        }

        boolean hasPeriod(int number) {
            return alike(number, this, 0) == size - number;
        }

        int countPeriods() {
            int count = 0;
            for (int number = 1; number <= size; number++) {
                if (hasPeriod(number)) {
                    count++;
                }
            }
            return count;
        }

        int sumPeriods() {
            int sum = 0;
            for (int number = 1; number <= size; number++) {
                if (hasPeriod(number)) {
                    sum += number;
                }
            }
            return sum;
        }

        int leastPeriod() {
            for (int number = 1; number < size; number++) {
                if (hasPeriod(number)) {
                    return number;
                }
            }
            return size;
        }

        int rootSize() {
            for (int number = 1; number < size; number++) {
                if (size % number == 0 && hasPeriod(number)) {
                    return number;
                }
            }
            return size;
        }

        boolean isTurnedTo(int by, Text other) {
            return size == other.size
                    && alike(by, other, 0) == size - by
                    && other.alike(size - by, this, 0) == by;
        }

        /** Below 0 if the text, turned by one number, is less than turned by another one. */
        int compareTurns(int by, int otherBy) {
            for (int place = 0; place < size; place++) {
                int difference = signTurned(by, place) - signTurned(otherBy, place);
                if (difference != 0) {
                    return difference;
                }
            }
            return 0;
        }

        private char signTurned(int by, int place) {
            int unturned = by + place;
            return signOn(unturned < size ? unturned : unturned - size);
        }

        boolean isMirror(int from, int till) {
            int left = from;
            int right = till - 1;
            while (left < right) {
                if (signOn(left) != signOn(right)) {
                    return false;
                }
                left++;
                right--;
            }
            return true;
        }
    }

    /**
     * The factors of a text by the theorem of Chen, Fox and Lyndon: each one is less than its own
     * ends, and none is less than the one behind it; in one way alone a text is made of such.
     */
    private static final class Factors {

        static int countIn(Text text) {
            int count = 0;
            int place = 0;
            while (count < MOST && place < text.size()) {
                place += sizeAt(text, place);
                count++;
            }
            return count;
        }

        /** The place at which a factor begins; without it, how many signs there are. */
        static int beginOf(Text text, int index) {
            int place = 0;
            for (int ahead = 0; ahead < index && place < text.size(); ahead++) {
                place += sizeAt(text, place);
            }
            return place;
        }

        /**
         * Duval's way: what has been read is the factor, again and again, and some of its
         * beginning. A sign that is higher than due makes one factor of all of it; a lower one
         * ends it.
         */
        private static int sizeAt(Text text, int from) {
            int due = from;
            int read = from + 1;
            while (read < text.size() && text.signOn(due) <= text.signOn(read)) {
                due = text.signOn(due) < text.signOn(read) ? from : due + 1;
                read++;
            }
            return read - due;
        }

        /** Looks at the factors by the theorem's own words, not by the way they were found. */
        static boolean areTrue(Text text) {
            int ahead = 0;
            int from = 0;
            for (int count = 0; count < MOST && from < text.size(); count++) {
                int till = from + sizeAt(text, from);
                if (!isLessThanItsEnds(text, from, till)) {
                    return false;
                }
                if (from > 0 && text.compareNeighbours(ahead, from, till) < 0) {
                    return false;
                }
                ahead = from;
                from = till;
            }
            return from == text.size();
        }

        private static boolean isLessThanItsEnds(Text text, int from, int till) {
            for (int end = from + 1; end < till; end++) {
                int shared = text.alike(from, text, end);
                // An end without a sign that differs begins the factor, and so is less than it.
                if (shared >= till - end
                        || text.signOn(from + shared) > text.signOn(end + shared)) {
                    return false;
                }
            }
            return true;
        }
    }

    /** The ends of a text that are not empty, in their order. */
    private static final class Ends {
        private final int[] ranks = new int[MOST + 1];
        private final int[] places = new int[MOST];

        void arrange(Text text) {
            int size = text.size();
            // The empty end is less than all others; it has a rank so that they can be told by it.
            keepRank(size, -1);
            for (int place = size - 1; place >= 0; place--) {
                insert(text, place);
            }
            for (int place = 0; place < size; place++) {
                int rank = rankBy(place);
                if (rank >= 0 && rank < places.length) {
                    places[rank] = place;
                }
            }
        }

        private void insert(Text text, int place) {
            int rank = 0;
            for (int later = place + 1; later < text.size(); later++) {
                if (isLess(text, later, place)) {
                    rank++;
                }
            }
            for (int later = place + 1; later < text.size(); later++) {
                int laterRank = rankBy(later);
                if (laterRank >= rank) {
                    keepRank(later, laterRank + 1);
                }
            }
            keepRank(place, rank);
        }

        /** Behind the same sign two ends are as the ends one place on are, which have ranks. */
        private boolean isLess(Text text, int end, int other) {
            char sign = text.signOn(end);
            char otherSign = text.signOn(other);
            return sign == otherSign ? rankBy(end + 1) < rankBy(other + 1) : sign < otherSign;
        }

        private void keepRank(int place, int rank) {
            if (place >= 0 && place < ranks.length) {
                ranks[place] = rank;
            }
        }

        int rankBy(int place) {
            return place < 0 || place >= ranks.length ? -1 : ranks[place];
        }

        int placeBy(int rank) {
            return rank < 0 || rank >= places.length ? -1 : places[rank];
        }

        /** How many signs an end begins with that the end just less begins with too. */
        int sharedBefore(Text text, int rank) {
            return rank < 1 ? 0 : text.alike(placeBy(rank), text, placeBy(rank - 1));
        }
    }

    /** What two texts have in common if they are repeats of the same one. */
    private static final class Roots {

        static boolean doCommute(Text text, Text other) {
            int size = text.size() + other.size();
            for (int place = 0; place < size; place++) {
                if (signJoined(text, other, place) != signJoined(other, text, place)) {
                    return false;
                }
            }
            return true;
        }

        private static char signJoined(Text text, Text other, int place) {
            return place < text.size() ? text.signOn(place) : other.signOn(place - text.size());
        }

        /** How many signs the common root of two texts has; 0 without one, or if both are empty. */
        static int sharedSize(Text text, Text other) {
            if (text.isEmpty()) {
                return other.rootSize();
            }
            int size = text.rootSize();
            if (other.isEmpty()) {
                return size;
            }
            return other.rootSize() == size && text.alike(0, other, 0) >= size ? size : 0;
        }

        /** Two texts that are not both empty commute if, and only if, they have a common root. */
        static boolean areTrue(Text text, Text other) {
            boolean areEmpty = text.isEmpty() && other.isEmpty();
            return doCommute(text, other) == (areEmpty || sharedSize(text, other) > 0);
        }
    }

    /** What rows of some slots make. */
    private static final class Making {
        private static final int MOST_REMAINDERS = SLOTS * MOST;

        private final long[] rowsUpTo = new long[MOST + 1];
        // Remainders: the ends by which one row is ahead of another one that it is the same as.
        private final int[] slots = new int[MOST_REMAINDERS];
        private final int[] begins = new int[MOST_REMAINDERS];
        private final long[] known = new long[SLOTS];
        private int remainders = 0;

        long countRows(Text text, Text[] texts, int set) {
            rowsUpTo[0] = 1;
            for (int till = 1; till <= text.size() && till < rowsUpTo.length; till++) {
                long rows = 0;
                for (int slot = 0; slot < SLOTS; slot++) {
                    int from = till - texts[slot].size();
                    if (isUsed(texts, set, slot) && text.hasAt(from, texts[slot])) {
                        rows += rowsTo(from);
                    }
                }
                rowsUpTo[till] = rows;
            }
            return rowsTo(text.size());
        }

        private long rowsTo(int till) {
            return till < 0 || till >= rowsUpTo.length ? 0 : rowsUpTo[till];
        }

        /**
         * The way of Sardinas and Patterson: two unlike rows that make the same text are put
         * together slot by slot, always behind the shorter one; just the remainder matters.
         */
        boolean areFree(Text[] texts, int set) {
            forgetRemainders();
            for (int slot = 0; slot < SLOTS; slot++) {
                for (int other = 0; other < slot; other++) {
                    if (isUsed(texts, set, slot) && isMatchedBy(texts, set, slot, 0, other)) {
                        return false;
                    }
                }
            }
            for (int next = 0; next < remainders && next < MOST_REMAINDERS; next++) {
                for (int other = 0; other < SLOTS; other++) {
                    if (isMatchedBy(texts, set, slots[next], begins[next], other)) {
                        return false;
                    }
                }
            }
            return true;
        }

        /** Puts a slot under a remainder: tells whether both end there, and keeps what is over. */
        private boolean isMatchedBy(Text[] texts, int set, int slot, int begin, int other) {
            if (slot < 0 || slot >= SLOTS || !isUsed(texts, set, other)) {
                return false;
            }
            int size = texts[slot].size() - begin;
            int otherSize = texts[other].size();
            int shared = texts[slot].alike(begin, texts[other], 0);
            if (shared == size && shared == otherSize) {
                return true;
            }
            if (shared == otherSize) {
                keepRemainder(slot, begin + otherSize);
            } else if (shared == size) {
                keepRemainder(other, size);
            }
            return false;
        }

        private void forgetRemainders() {
            remainders = 0;
            for (int slot = 0; slot < SLOTS; slot++) {
                known[slot] = 0;
            }
        }

        private void keepRemainder(int slot, int begin) {
            long bit = 1L << begin;
            boolean isNew = slot >= 0 && slot < SLOTS && (known[slot] & bit) == 0;
            if (isNew && remainders < MOST_REMAINDERS) {
                known[slot] |= bit;
                slots[remainders] = slot;
                begins[remainders] = begin;
                remainders++;
            }
        }

        private static boolean isUsed(Text[] texts, int set, int slot) {
            return (set >> slot & 1) == 1 && !texts[slot].isEmpty();
        }
    }
}
