import java.util.NoSuchElementException;

/** Words with holes in four registers, a list of patterns that words avoid, and two rows of numbers. */
public final class HoleWords {
    private static final int HOLE = -1;
    private static final int NOTHING = -1;
    private static final int MAX_LETTERS = 3;
    private static final int FIRST_LETTERS = 2;
    private static final int REGISTERS = 4;
    private static final int MAX_LENGTH = 40;
    private static final int MAX_PATTERNS = 12;
    private static final int MAX_PATTERN = 5;
    private static final int MAX_INPUT = 30;
    private static final int MAX_OPEN = 4;
    private static final int ROWS = 2;
    private static final int MAX_ROW = 41;
    private static final int MAX_BOUND_PERIOD = 1000;
    private static final int MAX_PRIMITIVE_HOLES = 7;
    private static final int MAX_COMPLEXITY = 6;
    private static final int MAX_COUNTED = 30;
    private static final long MAX_LONG = 0x7fffffffffffffffL;

    private final Store store = new Store();
    private final Store snapshot = new Store();
    private final TextReader reader = new TextReader();
    private final Walks walks = new Walks();
    private final Row[] rows = new Row[ROWS];
    /** Work space of single calls; nothing in it outlives a call. */
    private final Word draft = new Word();
    private final Word found = new Word();
    private final long[] fitting = new long[MAX_LETTERS];
    private boolean hasSnapshot;

    public HoleWords() {
        for (int i = 0; i < rows.length; i++) {
            rows[i] = new Row();
        }
    }

    // ---- words

    public int setLetters(int k) throws IllegalArgumentException {
        if (k < 1 || k > MAX_LETTERS) {
            throw new IllegalArgumentException("the number of letters is not from 1 to 3");
        }
        int previous = store.letters;
        store.startWith(k);
        return previous;
    }

    public int append(int register, int symbol) throws IllegalArgumentException, IllegalStateException {
        Word word = wordIn(register);
        requireSymbol(symbol);
        if (!word.add(symbol)) {
            throw new IllegalStateException("the word has 40 symbols");
        }
        return word.size();
    }

    public int feed(int character) throws IllegalArgumentException, IllegalStateException {
        if (character < 33 || character > 126) {
            throw new IllegalArgumentException("the character is not from 33 to 126");
        }
        if (!reader.accept(character)) {
            throw new IllegalStateException("the input has 30 characters");
        }
        return reader.inputSize();
    }

    public int parseWord(int register) throws IllegalArgumentException, IllegalStateException {
        Word word = wordIn(register);
        if (!reader.read(store.letters)) {
            throw new IllegalStateException("the text is not valid");
        }
        if (reader.isTooLong()) {
            throw new IllegalStateException("the word would have more than 40 symbols");
        }
        word.copyFrom(reader.result());
        return word.size();
    }

    public int errorPosition() throws NoSuchElementException {
        if (reader.errorOffset() == NOTHING) {
            throw new NoSuchElementException("no text was invalid");
        }
        return reader.errorOffset();
    }

    public int length(int register) throws IllegalArgumentException {
        return wordIn(register).size();
    }

    public int symbol(int register, int i) throws IllegalArgumentException, IndexOutOfBoundsException {
        Word word = wordIn(register);
        requirePosition(word, i);
        return word.at(i);
    }

    public int setSymbol(int register, int i, int symbol) throws IllegalArgumentException, IndexOutOfBoundsException {
        Word word = wordIn(register);
        requireSymbol(symbol);
        requirePosition(word, i);
        int previous = word.at(i);
        word.put(i, symbol);
        return previous;
    }

    public int clear(int register) throws IllegalArgumentException {
        Word word = wordIn(register);
        int previous = word.size();
        word.makeEmpty();
        return previous;
    }

    public int concatenate(int to, int from) throws IllegalArgumentException, IllegalStateException {
        Word word = wordIn(to);
        Word tail = wordIn(from);
        int added = tail.size();
        if (word.size() + added > MAX_LENGTH) {
            throw new IllegalStateException("the word would have more than 40 symbols");
        }
        for (int i = 0; i < added; i++) {
            word.add(tail.at(i));
        }
        return word.size();
    }

    public boolean reverse(int register) throws IllegalArgumentException {
        Word word = wordIn(register);
        draft.copyFrom(word);
        for (int i = 0; i < word.size(); i++) {
            word.put(i, draft.at(word.size() - 1 - i));
        }
        return word.isSameAs(draft);
    }

    public boolean rotate(int register, int n) throws IllegalArgumentException, IndexOutOfBoundsException {
        Word word = wordIn(register);
        int size = word.size();
        if (n < 0 || n > size) {
            throw new IndexOutOfBoundsException("so many symbols cannot be moved");
        }
        draft.copyFrom(word);
        for (int i = 0; i < size; i++) {
            word.put(i, draft.at(i + n < size ? i + n : i + n - size));
        }
        return word.isSameAs(draft);
    }

    public int holes(int register) throws IllegalArgumentException {
        return wordIn(register).holeCount();
    }

    // ---- relations

    public boolean isCompatible(int a, int b) throws IllegalArgumentException {
        return wordIn(a).agreesWith(wordIn(b));
    }

    public boolean isContained(int a, int b) throws IllegalArgumentException {
        Word first = wordIn(a);
        Word second = wordIn(b);
        if (first.size() != second.size()) {
            return false;
        }
        for (int i = 0; i < first.size(); i++) {
            if (first.at(i) != HOLE && first.at(i) != second.at(i)) {
                return false;
            }
        }
        return true;
    }

    public int conflict(int a, int b) throws IllegalArgumentException, IllegalStateException {
        Word first = wordIn(a);
        Word second = wordIn(b);
        if (first.size() != second.size()) {
            throw new IllegalStateException("the words have different lengths");
        }
        for (int i = 0; i < first.size(); i++) {
            if (differ(first.at(i), second.at(i))) {
                return i;
            }
        }
        return NOTHING;
    }

    public int join(int a, int b, int to) throws IllegalArgumentException, IllegalStateException {
        Word first = wordIn(a);
        Word second = wordIn(b);
        Word target = wordIn(to);
        if (!first.agreesWith(second)) {
            throw new IllegalStateException("the words are not compatible");
        }
        // The target may be one of the two, so the join is made apart from it.
        draft.copyFrom(first);
        for (int i = 0; i < draft.size(); i++) {
            if (draft.at(i) == HOLE) {
                draft.put(i, second.at(i));
            }
        }
        target.copyFrom(draft);
        return target.holeCount();
    }

    // ---- periods

    public boolean isPeriod(int register, int p, boolean isWeak) throws IllegalArgumentException {
        Word word = wordIn(register);
        if (p < 1 || p > word.size()) {
            throw new IllegalArgumentException("the number is not from 1 to the length of the word");
        }
        return word.hasPeriod(p, isWeak);
    }

    public int smallestPeriod(int register, boolean isWeak) throws IllegalArgumentException, NoSuchElementException {
        Word word = wordIn(register);
        if (word.size() == 0) {
            throw new NoSuchElementException("the word is empty");
        }
        return word.firstPeriod(isWeak);
    }

    public int periodBound(int p, int q, int holes) throws IllegalArgumentException {
        if (p < 1 || p > MAX_BOUND_PERIOD || q < 1 || q > MAX_BOUND_PERIOD || holes < 0 || holes > 1) {
            throw new IllegalArgumentException("an argument is out of range");
        }
        return holes == 1 ? p + q : p + q - commonDivisor(p, q);
    }

    public int longestBorder(int register) throws IllegalArgumentException {
        Word word = wordIn(register);
        // The first and the last b symbols are compatible just if n - b is a weak period.
        return word.size() - word.firstPeriod(true);
    }

    public boolean isPrimitive(int register) throws IllegalArgumentException {
        Word word = wordIn(register);
        return word.size() > 0 && word.repetitions() == 1;
    }

    public int exponent(int register) throws IllegalArgumentException, NoSuchElementException {
        Word word = wordIn(register);
        if (word.size() == 0) {
            throw new NoSuchElementException("the word is empty");
        }
        return word.repetitions();
    }

    // ---- completions and factors

    public long completionCount(int register) throws IllegalArgumentException, ArithmeticException {
        long count = completionsOf(wordIn(register), store.letters);
        if (count == NOTHING) {
            throw new ArithmeticException("the number of completions does not fit into a long");
        }
        return count;
    }

    public int complete(int register, long number, int to)
            throws IllegalArgumentException, ArithmeticException, NoSuchElementException {
        Word word = wordIn(register);
        Word target = wordIn(to);
        long count = completionsOf(word, store.letters);
        if (count == NOTHING) {
            throw new ArithmeticException("the number of completions does not fit into a long");
        }
        if (number < 0 || number >= count) {
            throw new NoSuchElementException("no such completion");
        }
        target.copyFrom(word);
        fillHoles(target, number, store.letters);
        return target.size();
    }

    public int primitiveCompletions(int register) throws IllegalArgumentException, IllegalStateException {
        Word word = wordIn(register);
        if (word.holeCount() > MAX_PRIMITIVE_HOLES) {
            throw new IllegalStateException("the word has more than 7 holes");
        }
        int size = word.size();
        int total = 0;
        // Moebius inversion: the completions with the period d are those whose shortest root has a length dividing d.
        for (int d = 1; d <= size; d++) {
            if (size % d == 0) {
                total += moebius(size / d) * periodicCompletions(word, d, store.letters);
            }
        }
        return total;
    }

    public int complexity(int register, int n) throws IllegalArgumentException {
        Word word = wordIn(register);
        if (n < 0 || n > MAX_COMPLEXITY) {
            throw new IllegalArgumentException("the length is not from 0 to 6");
        }
        if (n > word.size()) {
            return 0;
        }
        for (int letter = 0; letter < fitting.length; letter++) {
            fitting[letter] = word.placesFor(letter);
        }
        long starts = (1L << (word.size() - n + 1)) - 1;
        return distinctFactors(fitting, store.letters, starts, 0, n);
    }

    public int occurrences(int pattern, int register) throws IllegalArgumentException {
        Word sought = wordIn(pattern);
        Word word = wordIn(register);
        int count = 0;
        for (int i = 0; i <= word.size() - sought.size(); i++) {
            if (word.agreesAt(i, sought)) {
                count++;
            }
        }
        return count;
    }

    // ---- patterns

    public int addPattern(int register) throws IllegalArgumentException, IllegalStateException {
        Word word = wordIn(register);
        if (store.patterns.count() >= MAX_PATTERNS) {
            throw new IllegalStateException("there are 12 patterns");
        }
        if (word.size() < 1 || word.size() > MAX_PATTERN) {
            throw new IllegalStateException("the word does not have 1 to 5 symbols");
        }
        store.patterns.include(word);
        return store.patterns.count() - 1;
    }

    public int removePattern(int i) throws IndexOutOfBoundsException {
        if (i < 0 || i >= store.patterns.count()) {
            throw new IndexOutOfBoundsException("no such pattern");
        }
        store.patterns.exclude(i);
        return store.patterns.count();
    }

    public int patternCount() {
        return store.patterns.count();
    }

    public boolean avoids(int register) throws IllegalArgumentException {
        Word word = wordIn(register);
        long begun = 0;
        for (int i = 0; i < word.size(); i++) {
            begun = store.patterns.follow(begun, word.at(i));
            if ((begun & store.patterns.ends()) != 0) {
                return false;
            }
        }
        return true;
    }

    public boolean isUnavoidable() {
        walks.build(store.letters, store.patterns, store.patterns.ends());
        return walks.longest() != NOTHING;
    }

    public boolean isMinimal() {
        walks.build(store.letters, store.patterns, store.patterns.ends());
        if (walks.longest() == NOTHING) {
            return false;
        }
        for (int i = 0; i < store.patterns.count(); i++) {
            walks.build(store.letters, store.patterns, store.patterns.endsWithout(i));
            if (walks.longest() != NOTHING) {
                return false;
            }
        }
        return true;
    }

    public int longestAvoiding() throws NoSuchElementException {
        walks.build(store.letters, store.patterns, store.patterns.ends());
        int longest = walks.longest();
        if (longest == NOTHING) {
            throw new NoSuchElementException("the patterns are avoidable");
        }
        return longest;
    }

    public long countAvoiding(int n) throws IllegalArgumentException {
        if (n < 0 || n > MAX_COUNTED) {
            throw new IllegalArgumentException("the length is not from 0 to 30");
        }
        walks.build(store.letters, store.patterns, store.patterns.ends());
        return walks.countOfLength(n);
    }

    public int avoidingCycle(int register) throws IllegalArgumentException, NoSuchElementException {
        Word word = wordIn(register);
        walks.build(store.letters, store.patterns, store.patterns.ends());
        walks.findCycle(found, draft);
        if (found.size() == 0) {
            throw new NoSuchElementException("no word of at most 40 letters");
        }
        word.copyFrom(found);
        return word.size();
    }

    // ---- rows, snapshot

    public int newRow(int row, int type, int size) throws IllegalArgumentException {
        Row target = rowAt(row);
        if (type < 0 || type > 1) {
            throw new IllegalArgumentException("no such type");
        }
        if (size < 0 || size > MAX_ROW) {
            throw new IllegalArgumentException("the size is not from 0 to 41");
        }
        target.renew(type == 1, size);
        return size;
    }

    public int fillDensities(int row, int register) throws IllegalArgumentException, IllegalStateException {
        Row target = rowAt(row);
        Word word = wordIn(register);
        requireRow(target);
        if (target.size() < word.size()) {
            throw new IllegalStateException("the row has fewer elements than the word has symbols");
        }
        int period = word.firstPeriod(true);
        int holeCount = 0;
        for (int i = 1; i <= word.size(); i++) {
            if (word.at(i - 1) == HOLE) {
                holeCount++;
            }
            target.putQuotient(i - 1, holeCount, i, period);
        }
        return word.size();
    }

    public int takeRemainder(int row, int i, int j)
            throws IllegalArgumentException, IllegalStateException, IndexOutOfBoundsException, ArithmeticException {
        Row target = rowAt(row);
        requireRow(target);
        requireElement(target, i);
        requireElement(target, j);
        double divisor = target.at(j);
        if (divisor == 0) {
            throw new ArithmeticException("the divisor is 0");
        }
        double rest = remainder(target.at(i), divisor);
        target.put(i, rest);
        return (int) (rest * 1000000.0);
    }

    public long elementBits(int row, int i)
            throws IllegalArgumentException, IllegalStateException, IndexOutOfBoundsException {
        Row target = rowAt(row);
        requireRow(target);
        requireElement(target, i);
        return target.isDouble() ? bits(target.at(i), 1023, 52) : bits(target.at(i), 127, 23);
    }

    public int saveSnapshot() {
        snapshot.copyFrom(store);
        hasSnapshot = true;
        return store.patterns.count();
    }

    public int restoreSnapshot() throws IllegalStateException {
        if (!hasSnapshot) {
            throw new IllegalStateException("no snapshot was saved");
        }
        store.copyFrom(snapshot);
        return store.patterns.count();
    }

    // ---- tests of arguments

    private Word wordIn(int register) {
        Word word = store.wordOrNull(register);
        if (word == null) {
            throw new IllegalArgumentException("no such register");
        }
        return word;
    }

    private Row rowAt(int row) {
        Row target = row < 0 || row >= rows.length ? null : rows[row];
        if (target == null) {
            throw new IllegalArgumentException("no such row");
        }
        return target;
    }

    private void requireSymbol(int symbol) {
        if (symbol != HOLE && (symbol < 0 || symbol >= store.letters)) {
            throw new IllegalArgumentException("no such symbol");
        }
    }

    private static void requirePosition(Word word, int i) {
        if (i < 0 || i >= word.size()) {
            throw new IndexOutOfBoundsException("no such position");
        }
    }

    private static void requireRow(Row row) {
        if (row.isMissing()) {
            throw new IllegalStateException("the row is missing");
        }
    }

    private static void requireElement(Row row, int i) {
        if (i < 0 || i >= row.size()) {
            throw new IndexOutOfBoundsException("no such element");
        }
    }

    // ---- calculations

    private static boolean differ(int a, int b) {
        return a != HOLE && b != HOLE && a != b;
    }

    private static int commonDivisor(int p, int q) {
        for (int d = Math.min(p, q); d > 1; d--) {
            if (p % d == 0 && q % d == 0) {
                return d;
            }
        }
        return 1;
    }

    /** The Moebius function: 0 if a square divides m, otherwise 1 or -1 for an even or odd number of prime factors. */
    private static int moebius(int m) {
        int rest = m;
        int sign = 1;
        for (int p = 2; p <= m; p++) {
            if (rest % p == 0) {
                rest /= p;
                if (rest % p == 0) {
                    return 0;
                }
                sign = -sign;
            }
        }
        return sign;
    }

    /** The number of completions, or NOTHING if it does not fit into a long. */
    private static long completionsOf(Word word, int letters) {
        long count = 1;
        for (int i = word.holeCount(); i > 0; i--) {
            if (letters > 1 && count > MAX_LONG / letters) {
                return NOTHING;
            }
            count *= letters;
        }
        return count;
    }

    /** The last hole counts fastest, so that the completions stand in lexicographic order. */
    private static void fillHoles(Word word, long number, int letters) {
        long rest = number;
        for (int i = word.size() - 1; i >= 0; i--) {
            if (word.at(i) == HOLE && letters > 0) {
                word.put(i, (int) (rest % letters));
                rest /= letters;
            }
        }
    }

    /** The number of completions with the period d, which divides the length. */
    private static int periodicCompletions(Word word, int d, int letters) {
        if (!word.hasPeriod(d, false)) {
            return 0;
        }
        int count = 1;
        for (int start = 0; start < d; start++) {
            if (word.isHoleAtEach(start, d)) {
                count *= letters;
            }
        }
        return count;
    }

    /** How many words of n letters go on from one of the starts, all of which fit the depth letters chosen so far. */
    private static int distinctFactors(long[] places, int letters, long starts, int depth, int n) {
        if (starts == 0) {
            return 0;
        }
        if (depth >= n || depth >= MAX_COMPLEXITY) {
            return 1;
        }
        int count = 0;
        for (int letter = 0; letter < letters && letter < places.length; letter++) {
            count += distinctFactors(places, letters, starts & (places[letter] >>> depth), depth + 1, n);
        }
        return count;
    }

    /**
     * value % divisor for value >= 0 and divisor > 0. Each subtraction takes a step of more than half of the rest, so
     * that it is exact.
     */
    private static double remainder(double value, double divisor) {
        double rest = value;
        double step = divisor;
        int doublings = 0;
        while (doublings < 1100 && step + step <= rest) {
            step += step;
            doublings++;
        }
        for (int i = doublings; i >= 0; i--) {
            if (step <= rest) {
                rest -= step;
            }
            step /= 2;
        }
        return rest;
    }

    /**
     * The bits of a number from 0 to 1, as all that a row holds. A row holds multiples of 2^-63, so that the number is
     * never too small for the form with the leading 1.
     */
    private static long bits(double value, int bias, int fractionBits) {
        if (value <= 0) {
            return 0;
        }
        double scaled = value;
        int exponent = bias;
        for (int i = 0; i < 1100 && scaled < 1; i++) {
            scaled *= 2;
            exponent--;
        }
        long fraction = (long) ((scaled - 1.0) * (double) (1L << fractionBits));
        return ((long) exponent << fractionBits) + fraction;
    }

    // ---- classes

    /** A sequence of at most 40 symbols. */
    private static final class Word {
        private final int[] symbols = new int[MAX_LENGTH];
        private int size;

        int size() {
            return size;
        }

        int at(int i) {
            return i < 0 || i >= size || i >= symbols.length ? HOLE : symbols[i];
        }

        void put(int i, int symbol) {
            if (i >= 0 && i < size && i < symbols.length) {
                symbols[i] = symbol;
            }
        }

        boolean add(int symbol) {
            if (size < 0 || size >= symbols.length) {
                return false;
            }
            symbols[size] = symbol;
            size++;
            return true;
        }

        void makeEmpty() {
            size = 0;
        }

        void copyFrom(Word other) {
            size = other.size;
            for (int i = 0; i < size; i++) {
                put(i, other.at(i));
            }
        }

        boolean isSameAs(Word other) {
            for (int i = 0; i < size; i++) {
                if (at(i) != other.at(i)) {
                    return false;
                }
            }
            return size == other.size;
        }

        /** Whether it is shorter, or as long and lexicographically smaller. */
        boolean isBefore(Word other) {
            if (size != other.size) {
                return size < other.size;
            }
            for (int i = 0; i < size; i++) {
                if (at(i) != other.at(i)) {
                    return at(i) < other.at(i);
                }
            }
            return false;
        }

        int holeCount() {
            int count = 0;
            for (int i = 0; i < size; i++) {
                if (at(i) == HOLE) {
                    count++;
                }
            }
            return count;
        }

        boolean agreesWith(Word other) {
            return size == other.size && agreesAt(0, other);
        }

        /** Whether the factor from there, which is as long as the other word, is compatible with the other word. */
        boolean agreesAt(int from, Word other) {
            for (int i = 0; i < other.size; i++) {
                if (differ(at(from + i), other.at(i))) {
                    return false;
                }
            }
            return true;
        }

        boolean isHoleAtEach(int start, int step) {
            for (int i = start; i < size && step > 0; i += step) {
                if (at(i) != HOLE) {
                    return false;
                }
            }
            return true;
        }

        /** The positions, as bits, that have this letter or a hole. */
        long placesFor(int letter) {
            long places = 0;
            for (int i = 0; i < size; i++) {
                if (!differ(at(i), letter)) {
                    places |= 1L << i;
                }
            }
            return places;
        }

        /** A number is a strong period just if all its multiples are weak ones. */
        boolean hasPeriod(int p, boolean isWeak) {
            if (isWeak) {
                return agreesAfter(p);
            }
            for (int multiple = p; multiple < size && multiple > 0; multiple += p) {
                if (!agreesAfter(multiple)) {
                    return false;
                }
            }
            return true;
        }

        private boolean agreesAfter(int distance) {
            for (int i = distance; i < size; i++) {
                if (differ(at(i - distance), at(i))) {
                    return false;
                }
            }
            return true;
        }

        /** The smallest period, 0 for the empty word. */
        int firstPeriod(boolean isWeak) {
            for (int p = 1; p < size; p++) {
                if (hasPeriod(p, isWeak)) {
                    return p;
                }
            }
            return size;
        }

        /** The exponent of a word that is not empty. */
        int repetitions() {
            for (int d = 1; d < size; d++) {
                if (size % d == 0 && hasPeriod(d, false)) {
                    return size / d;
                }
            }
            return 1;
        }
    }

    /**
     * The list of patterns, as bits: the symbol j of the pattern i is the bit 5 * i + j. A text is followed with a set
     * of such bits: a bit is in it if the text ends with the pattern up to and with that symbol.
     */
    private static final class Patterns {
        private static final int WIDTH = MAX_PATTERN;
        private static final long SLOT = (1L << WIDTH) - 1;
        /** The bits of the first symbols of all slots. */
        private static final long STARTS = 0x0084210842108421L;

        private final long[] accepting = new long[MAX_LETTERS];
        private long ends;
        private int count;

        int count() {
            return count;
        }

        /** The bits of the last symbols of the patterns. */
        long ends() {
            return ends;
        }

        long endsWithout(int i) {
            return ends & ~(SLOT << (WIDTH * i));
        }

        void removeAll() {
            count = 0;
            ends = 0;
            for (int letter = 0; letter < accepting.length; letter++) {
                accepting[letter] = 0;
            }
        }

        void copyFrom(Patterns other) {
            count = other.count;
            ends = other.ends;
            for (int letter = 0; letter < accepting.length && letter < other.accepting.length; letter++) {
                accepting[letter] = other.accepting[letter];
            }
        }

        /** Adds a word of 1 to 5 symbols to a list that is not full. */
        void include(Word word) {
            int base = WIDTH * count;
            for (int letter = 0; letter < accepting.length; letter++) {
                accepting[letter] |= word.placesFor(letter) << base;
            }
            ends |= 1L << (base + word.size() - 1);
            count++;
        }

        void exclude(int i) {
            for (int letter = 0; letter < accepting.length; letter++) {
                accepting[letter] = withoutSlot(accepting[letter], i);
            }
            ends = withoutSlot(ends, i);
            count--;
        }

        private static long withoutSlot(long set, int i) {
            long earlier = (1L << (WIDTH * i)) - 1;
            return (set & earlier) | ((set >>> WIDTH) & ~earlier);
        }

        /** The set after one more symbol of the text; a hole of the text fits every symbol. */
        long follow(long begun, int symbol) {
            long next = (begun << 1) | STARTS;
            if (symbol < 0 || symbol >= accepting.length) {
                long any = 0;
                for (int letter = 0; letter < accepting.length; letter++) {
                    any |= accepting[letter];
                }
                return next & any;
            }
            return next & accepting[symbol];
        }
    }

    /** What a snapshot saves. */
    private static final class Store {
        private final Word[] words = new Word[REGISTERS];
        final Patterns patterns = new Patterns();
        int letters = FIRST_LETTERS;

        Store() {
            for (int i = 0; i < words.length; i++) {
                words[i] = new Word();
            }
        }

        Word wordOrNull(int register) {
            return register < 0 || register >= words.length ? null : words[register];
        }

        void startWith(int k) {
            letters = k;
            patterns.removeAll();
            for (int i = 0; i < words.length; i++) {
                Word word = words[i];
                if (word != null) {
                    word.makeEmpty();
                }
            }
        }

        void copyFrom(Store other) {
            letters = other.letters;
            patterns.copyFrom(other.patterns);
            for (int i = 0; i < words.length; i++) {
                Word word = words[i];
                Word source = other.wordOrNull(i);
                if (word != null && source != null) {
                    word.copyFrom(source);
                }
            }
        }
    }

    /** The input, and the reading of it as a word. */
    private static final class TextReader {
        private final int[] input = new int[MAX_INPUT];
        private int inputSize;
        private int errorOffset = NOTHING;
        private final Word result = new Word();
        private boolean isTooLong;
        /** For each open parenthesis the length that the result had there. */
        private final int[] opened = new int[MAX_OPEN];
        private int openCount;
        /** Where the latest item begins in the result. */
        private int itemStart;
        private boolean mayRepeat;
        private boolean mayClose;

        int inputSize() {
            return inputSize;
        }

        int errorOffset() {
            return errorOffset;
        }

        Word result() {
            return result;
        }

        boolean isTooLong() {
            return isTooLong;
        }

        boolean accept(int character) {
            if (inputSize < 0 || inputSize >= input.length) {
                return false;
            }
            input[inputSize] = character;
            inputSize++;
            return true;
        }

        /** Reads and empties the input. Returns whether the text is valid. */
        boolean read(int letters) {
            int size = inputSize;
            inputSize = 0;
            result.makeEmpty();
            isTooLong = false;
            openCount = 0;
            mayRepeat = false;
            for (int i = 0; i < size && i < input.length; i++) {
                if (!take(input[i], letters)) {
                    errorOffset = i;
                    return false;
                }
            }
            if (openCount > 0) {
                errorOffset = size;
                return false;
            }
            return true;
        }

        private boolean take(int character, int letters) {
            if (character == '(') {
                return open();
            }
            if (character == ')') {
                return close();
            }
            if (character >= '2' && character <= '9') {
                return repeat(character - '0');
            }
            if (character == '_') {
                return addItem(HOLE);
            }
            int letter = character - 'a';
            return letter >= 0 && letter < letters && addItem(letter);
        }

        private boolean addItem(int symbol) {
            itemStart = result.size();
            addSymbol(symbol);
            mayRepeat = true;
            mayClose = true;
            return true;
        }

        /** A word never gets shorter again while it is read, so that one symbol too many is enough to know. */
        private void addSymbol(int symbol) {
            if (!result.add(symbol)) {
                isTooLong = true;
            }
        }

        private boolean open() {
            if (openCount < 0 || openCount >= opened.length) {
                return false;
            }
            opened[openCount] = result.size();
            openCount++;
            mayRepeat = false;
            mayClose = false;
            return true;
        }

        private boolean close() {
            if (openCount < 1 || openCount > opened.length || !mayClose) {
                return false;
            }
            openCount--;
            itemStart = opened[openCount];
            mayRepeat = true;
            return true;
        }

        private boolean repeat(int times) {
            if (!mayRepeat) {
                return false;
            }
            int itemEnd = result.size();
            for (int round = 1; round < times; round++) {
                for (int i = itemStart; i < itemEnd; i++) {
                    addSymbol(result.at(i));
                }
            }
            mayRepeat = false;
            return true;
        }
    }

    /**
     * The full words that avoid the patterns, as walks. A state is a word of at most 4 letters, the last ones that
     * were read: as a pattern has at most 5 symbols, it tells which letters may follow. The empty word is the state 0,
     * and the letter c behind the state s makes the state s * letters + c + 1, so that shorter words come first.
     */
    private static final class Walks {
        private static final int MEMORY = MAX_PATTERN - 1;
        private static final int MAX_STATES = 121;

        private int letters;
        private int states;
        /** For each state and letter the next state, or NOTHING if a pattern would end with the letter. */
        private final int[] targets = new int[MAX_STATES * MAX_LETTERS];
        private final int[] lastLetter = new int[MAX_STATES];
        private final int[] withoutFirst = new int[MAX_STATES];
        private final long[] begun = new long[MAX_STATES];
        private final int[] queue = new int[MAX_STATES];
        private final int[] depth = new int[MAX_STATES];
        private final int[] arrivals = new int[MAX_STATES];
        private final int[] cameFrom = new int[MAX_STATES];
        private final long[] counts = new long[MAX_STATES];
        private final long[] nextCounts = new long[MAX_STATES];

        /** Only the patterns whose last symbol is in ends are to be avoided. */
        void build(int letterCount, Patterns patterns, long ends) {
            setSize(letterCount);
            for (int s = 0; s < states && s < begun.length; s++) {
                for (int c = 0; c < letters; c++) {
                    long after = patterns.follow(begun[s], c);
                    int next = s * letters + c + 1;
                    int shorter = s == 0 ? 0 : peek(withoutFirst, s) * letters + c + 1;
                    if (next < states && next < begun.length) {
                        begun[next] = after;
                        poke(withoutFirst, next, shorter);
                        poke(lastLetter, next, c);
                    } else {
                        next = shorter;
                    }
                    poke(targets, s * MAX_LETTERS + c, (after & ends) != 0 ? NOTHING : next);
                }
            }
        }

        private void setSize(int letterCount) {
            letters = letterCount;
            states = 1;
            int words = 1;
            for (int i = 0; i < MEMORY; i++) {
                words *= letters;
                states += words;
            }
        }

        private int target(int state, int letter) {
            return peek(targets, state * MAX_LETTERS + letter);
        }

        /** The length of the longest walk from the empty word, or NOTHING if there are walks without end. */
        int longest() {
            int reached = countArrivals();
            int done = 1;
            int longest = 0;
            poke(queue, 0, 0);
            poke(depth, 0, 0);
            // A state comes up when all walks to it are known; the states of a cycle never do.
            for (int head = 0; head < done && head < queue.length; head++) {
                int s = queue[head];
                longest = peek(depth, s);
                for (int c = 0; c < letters; c++) {
                    int t = target(s, c);
                    if (t != NOTHING) {
                        poke(arrivals, t, peek(arrivals, t) - 1);
                        if (peek(arrivals, t) == 0) {
                            poke(depth, t, longest + 1);
                            poke(queue, done, t);
                            done++;
                        }
                    }
                }
            }
            return done < reached ? NOTHING : longest;
        }

        /** For each state the number of steps to it from states that are reached. Returns how many are reached. */
        private int countArrivals() {
            for (int s = 0; s < arrivals.length; s++) {
                arrivals[s] = 0;
            }
            int reached = 1;
            poke(queue, 0, 0);
            for (int head = 0; head < reached && head < queue.length; head++) {
                for (int c = 0; c < letters; c++) {
                    int t = target(queue[head], c);
                    if (t != NOTHING) {
                        if (peek(arrivals, t) == 0) {
                            poke(queue, reached, t);
                            reached++;
                        }
                        poke(arrivals, t, peek(arrivals, t) + 1);
                    }
                }
            }
            return reached;
        }

        /** The number of walks with so many letters from the empty word. */
        long countOfLength(int n) {
            for (int s = 0; s < counts.length; s++) {
                counts[s] = s == 0 ? 1 : 0;
            }
            for (int i = 0; i < n; i++) {
                countOneMore();
            }
            long sum = 0;
            for (int s = 0; s < counts.length; s++) {
                sum += counts[s];
            }
            return sum;
        }

        private void countOneMore() {
            for (int s = 0; s < nextCounts.length; s++) {
                nextCounts[s] = 0;
            }
            for (int s = 0; s < states && s < counts.length; s++) {
                for (int c = 0; c < letters && counts[s] != 0; c++) {
                    int t = target(s, c);
                    if (t >= 0 && t < nextCounts.length) {
                        nextCounts[t] += counts[s];
                    }
                }
            }
            for (int s = 0; s < counts.length && s < nextCounts.length; s++) {
                counts[s] = nextCounts[s];
            }
        }

        /** Puts the shortest cycle of at most 40 letters, the smallest one of these, or else the empty word there. */
        void findCycle(Word best, Word draft) {
            best.makeEmpty();
            for (int s = 0; s < states; s++) {
                int last = lastBeforeReturn(s, best.size() == 0 ? MAX_LENGTH : best.size());
                if (last != NOTHING) {
                    readCycle(s, last, draft);
                    if (best.size() == 0 || draft.isBefore(best)) {
                        best.copyFrom(draft);
                    }
                }
            }
        }

        /**
         * The last state of the shortest way from a state back to itself, if it has at most so many letters, or
         * NOTHING. States are reached in the order of their smallest shortest ways, so the first way back is the
         * smallest one, too.
         */
        private int lastBeforeReturn(int start, int limit) {
            for (int s = 0; s < depth.length; s++) {
                depth[s] = NOTHING;
            }
            int reached = 1;
            poke(queue, 0, start);
            poke(depth, start, 0);
            for (int head = 0; head < reached && head < queue.length; head++) {
                int s = queue[head];
                int length = peek(depth, s) + 1;
                for (int c = 0; c < letters && length <= limit; c++) {
                    int t = target(s, c);
                    if (t == start) {
                        return s;
                    }
                    if (t != NOTHING && peek(depth, t) == NOTHING) {
                        poke(depth, t, length);
                        poke(cameFrom, t, s);
                        poke(queue, reached, t);
                        reached++;
                    }
                }
            }
            return NOTHING;
        }

        /** The letters of the way that was found: each state is reached by its last letter. */
        private void readCycle(int start, int last, Word into) {
            int size = peek(depth, last) + 1;
            into.makeEmpty();
            for (int i = 0; i < size; i++) {
                into.add(peek(lastLetter, start));
            }
            int s = last;
            for (int i = size - 2; i >= 0; i--) {
                into.put(i, peek(lastLetter, s));
                s = peek(cameFrom, s);
            }
        }

        private static int peek(int[] cells, int i) {
            return i >= 0 && i < cells.length ? cells[i] : NOTHING;
        }

        private static void poke(int[] cells, int i, int value) {
            if (i >= 0 && i < cells.length) {
                cells[i] = value;
            }
        }
    }

    /** A row, missing at first. A float is held as the double of the same value. */
    private static final class Row {
        private final double[] elements = new double[MAX_ROW];
        private boolean isMissing = true;
        private boolean isDouble;
        private int size;

        boolean isMissing() {
            return isMissing;
        }

        boolean isDouble() {
            return isDouble;
        }

        int size() {
            return size;
        }

        void renew(boolean ofDoubles, int newSize) {
            isMissing = false;
            isDouble = ofDoubles;
            size = newSize;
            for (int i = 0; i < elements.length; i++) {
                elements[i] = 0;
            }
        }

        double at(int i) {
            return i >= 0 && i < elements.length ? elements[i] : 0;
        }

        void put(int i, double value) {
            if (i >= 0 && i < elements.length) {
                elements[i] = value;
            }
        }

        /** Puts a / b / c, with both divisions in the type of the row. */
        void putQuotient(int i, int a, int b, int c) {
            if (b < 1 || c < 1) {
                return;
            }
            if (isDouble) {
                put(i, (double) a / (double) b / (double) c);
            } else {
                put(i, (float) a / (float) b / (float) c);
            }
        }
    }
}
