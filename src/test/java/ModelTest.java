import java.lang.reflect.InvocationTargetException;
import java.lang.reflect.Method;
import java.math.BigInteger;
import java.util.ArrayList;
import java.util.Arrays;
import java.util.HashMap;
import java.util.HashSet;
import java.util.List;
import java.util.Map;
import java.util.NoSuchElementException;
import java.util.Random;
import java.util.Set;
import java.util.TreeMap;

/**
 * Runs of 512 drawn calls on HoleWords and on a slow model of the document over strings: each answer, and the state
 * that can be seen after each call, must be the same. The draws have fixed seeds.
 */
public final class ModelTest {
    private static final int RUNS = 400;
    private static final int CALLS = 512;
    private static final int PATTERN_RUNS = 1500;
    private static final int CYCLE_RUNS = 300;
    private static final int TEXT_RUNS = 1500;

    private static final String[] NAMES = {"setLetters", "append", "feed", "parseWord", "errorPosition", "length",
        "symbol", "setSymbol", "clear", "concatenate", "reverse", "rotate", "holes", "isCompatible", "isContained",
        "conflict", "join", "isPeriod", "smallestPeriod", "periodBound", "longestBorder", "isPrimitive", "exponent",
        "completionCount", "complete", "primitiveCompletions", "complexity", "occurrences", "addPattern",
        "removePattern", "patternCount", "avoids", "isUnavoidable", "isMinimal", "longestAvoiding", "countAvoiding",
        "avoidingCycle", "newRow", "fillDensities", "takeRemainder", "elementBits", "saveSnapshot", "restoreSnapshot"};
    /** How often a call is drawn, if not once. */
    private static final Map<String, Integer> WEIGHTS = Map.of("append", 12, "feed", 12, "parseWord", 3,
        "addPattern", 6, "setSymbol", 3, "concatenate", 2, "complete", 2, "takeRemainder", 4);

    private static final Map<String, Method> REAL = new HashMap<>();
    private static final Map<String, Method> MODEL = new HashMap<>();
    private static final List<String> DRAWN = new ArrayList<>();
    /** How often each method answered, and how often it threw: both kinds must have come up. */
    private static final Map<String, int[]> SEEN = new TreeMap<>();

    public static void main(String[] args) throws Exception {
        for (String name : NAMES) {
            SEEN.put(name, new int[2]);
            for (int i = 0; i < WEIGHTS.getOrDefault(name, 1); i++) {
                DRAWN.add(name);
            }
        }
        for (Method m : HoleWords.class.getDeclaredMethods()) {
            if (java.lang.reflect.Modifier.isPublic(m.getModifiers())) {
                REAL.put(m.getName(), m);
            }
        }
        for (Method m : Model.class.getDeclaredMethods()) {
            MODEL.put(m.getName(), m);
        }
        int wrong = 0;
        for (int run = 0; run < RUNS && wrong < 5; run++) {
            wrong += isRight(drawnRun(run)) ? 0 : 1;
        }
        for (int run = 0; run < PATTERN_RUNS && wrong < 5; run++) {
            wrong += isRight(patternRun(run)) ? 0 : 1;
        }
        for (int run = 0; run < CYCLE_RUNS && wrong < 5; run++) {
            wrong += isRight(cycleRun(run)) ? 0 : 1;
        }
        for (int run = 0; run < TEXT_RUNS && wrong < 5; run++) {
            wrong += isRight(textRun(run)) ? 0 : 1;
        }
        wrong += unseen();
        System.out.println("ModelTest: " + RUNS + " runs of " + CALLS + " calls, " + PATTERN_RUNS + " lists of patterns, "
            + CYCLE_RUNS + " with long cycles, " + TEXT_RUNS + " runs of texts, " + wrong + " wrong");
        if (wrong != 0) {
            System.exit(1);
        }
    }

    private static boolean isRight(Run run) {
        return !run.isWrong;
    }

    private static int unseen() {
        Set<String> neverThrow = Set.of("patternCount", "isUnavoidable", "isMinimal", "saveSnapshot");
        int missing = 0;
        for (String name : NAMES) {
            int[] seen = SEEN.get(name);
            if (seen[0] == 0 || seen[1] == 0 && !neverThrow.contains(name)) {
                missing++;
                System.out.println(name + " was never seen to " + (seen[0] == 0 ? "answer" : "throw"));
            }
        }
        return missing;
    }

    /** An object and a model that get the same calls. */
    private static final class Run {
        final String title;
        final HoleWords real = new HoleWords();
        final Model model = new Model();
        private final List<String> told = new ArrayList<>();
        boolean isWrong;

        Run(String title) {
            this.title = title;
        }

        Object call(String name, Object... args) throws Exception {
            Object got = answer(REAL.get(name), real, args);
            Object want = answer(MODEL.get(name), model, args);
            SEEN.get(name)[want instanceof Class ? 1 : 0]++;
            told.add(name + Arrays.toString(args) + " = " + got);
            String seenState = state(real);
            String wantState = state(model);
            if (!isWrong && (!got.equals(want) || !seenState.equals(wantState))) {
                isWrong = true;
                System.out.println(title + ", call " + told.size() + ": " + told.get(told.size() - 1) + ", due is " + want);
                System.out.println("  before: " + told.subList(Math.max(0, told.size() - 12), told.size() - 1));
                System.out.println("  state " + seenState + "\n  due   " + wantState);
                System.out.println("  patterns " + model.patterns + ", letters " + model.k);
            }
            return want;
        }

        void set(int register, String word) throws Exception {
            call("clear", register);
            for (char c : word.toCharArray()) {
                call("append", register, c == '_' ? -1 : c - 'a');
            }
        }
    }

    private static Run drawnRun(int seed) throws Exception {
        Random random = new Random(seed);
        Run run = new Run("run " + seed);
        for (int i = 0; i < CALLS && !run.isWrong; i++) {
            String name = i == 0 && seed % 3 != 0 ? "setLetters" : DRAWN.get(random.nextInt(DRAWN.size()));
            // Few runs lose all that they have made, so that lists and words grow.
            if (i > 0 && (name.equals("setLetters") || name.equals("clear")) && random.nextInt(8) != 0) {
                name = "append";
            }
            run.call(name, arguments(name, random, run.model, seed));
        }
        return run;
    }

    private static Run patternRun(int seed) throws Exception {
        Random random = new Random(seed);
        Run run = new Run("patterns " + seed);
        int letters = 1 + (seed + 1) % 3;
        run.call("setLetters", letters);
        int most = 1 + random.nextInt(12);
        int holes = random.nextInt(4);
        for (int i = 0; i < most && !run.isWrong; i++) {
            StringBuilder pattern = new StringBuilder();
            for (int size = 1 + random.nextInt(25) % 5 + random.nextInt(2); size > 0; size--) {
                pattern.append(random.nextInt(8) < holes ? '_' : (char) ('a' + random.nextInt(letters)));
            }
            if (pattern.length() == 1 && random.nextInt(4) != 0) {
                pattern.append('_').append(pattern);
            }
            run.set(0, pattern.toString());
            run.call("addPattern", 0);
            askPatterns(run);
        }
        run.call("countAvoiding", 1 + random.nextInt(30));
        for (int i = 0; i < 3; i++) {
            run.call("removePattern", random.nextInt(run.model.patterns.size() + 1));
            askPatterns(run);
        }
        return run;
    }

    /** Lists that always forbid the shortest cycle, so that the cycles grow, up to 12 letters and more. */
    private static Run cycleRun(int seed) throws Exception {
        Random random = new Random(seed);
        Run run = new Run("cycles " + seed);
        run.call("setLetters", seed % 5 == 0 ? 2 : 3);
        int holes = random.nextInt(4);
        for (int i = 0; i < 25 && !run.isWrong; i++) {
            int size = (Integer) run.call("avoidingCycle", 1);
            String repeated = run.model.words[1].repeat(10 / size + 2);
            int from = random.nextInt(size);
            StringBuilder pattern = new StringBuilder(repeated.substring(from, from + 2 + random.nextInt(4)));
            for (int j = 1; j < pattern.length() - 1; j++) {
                pattern.setCharAt(j, random.nextInt(6) < holes ? '_' : pattern.charAt(j));
            }
            run.set(0, pattern.toString());
            Object number = run.call("addPattern", 0);
            if (run.call("isUnavoidable").equals(true)) {
                run.call("longestAvoiding");
                run.call("isMinimal");
                run.call("avoidingCycle", 1);
                run.call("removePattern", number);
            }
        }
        run.call("countAvoiding", 30);
        return run;
    }

    private static void askPatterns(Run run) throws Exception {
        run.call("isUnavoidable");
        run.call("isMinimal");
        run.call("longestAvoiding");
        run.call("countAvoiding", 6);
        run.call("avoidingCycle", 1);
        run.call("avoids", 0);
        run.call("avoids", 1);
    }

    /** Texts of the grammar, of which two thirds have a character changed or are cut. */
    private static Run textRun(int seed) throws Exception {
        Random random = new Random(seed);
        Run run = new Run("texts " + seed);
        run.call("setLetters", 1 + seed % 3);
        for (int i = 0; i < 12 && !run.isWrong; i++) {
            StringBuilder text = new StringBuilder();
            while (text.length() < 1 + random.nextInt(20)) {
                text.append(someItem(random, seed % 3 + 1, 0));
            }
            if (i % 3 == 1) {
                text.setCharAt(random.nextInt(text.length()), "ab_c()()19:2".charAt(random.nextInt(12)));
            }
            if (i % 3 == 2) {
                text.setLength(random.nextInt(text.length()));
            }
            for (int j = 0; j < text.length() && j < 31; j++) {
                run.call("feed", (int) text.charAt(j));
            }
            run.call("parseWord", i % 4);
        }
        return run;
    }

    private static String someItem(Random random, int letters, int open) {
        String item = "";
        if (random.nextInt(3) == 0 && open < 5) {
            for (int n = 1 + random.nextInt(2); n > 0; n--) {
                item += someItem(random, letters, open + 1);
            }
            item = "(" + item + ")";
        } else {
            item += random.nextInt(3) == 0 ? '_' : (char) ('a' + random.nextInt(letters));
        }
        return random.nextInt(3) == 0 ? item + (char) ('2' + random.nextInt(random.nextInt(8) + 1)) : item;
    }

    private static Object answer(Method method, Object on, Object[] args) throws Exception {
        try {
            return method.invoke(on, args);
        } catch (InvocationTargetException e) {
            return e.getCause().getClass();
        }
    }

    // ---- the state that can be seen

    private static String state(HoleWords x) {
        StringBuilder s = new StringBuilder();
        for (int r = 0; r < 4; r++) {
            for (int i = 0; i < x.length(r); i++) {
                s.append(x.symbol(r, i) < 0 ? '_' : (char) ('a' + x.symbol(r, i)));
            }
            s.append(' ');
        }
        s.append(x.patternCount()).append(' ');
        try {
            s.append(x.errorPosition());
        } catch (NoSuchElementException e) {
            s.append(-1);
        }
        for (int row = 0; row < 2; row++) {
            s.append(" [");
            try {
                for (int i = 0;; i++) {
                    s.append(x.elementBits(row, i)).append(' ');
                }
            } catch (IllegalStateException e) {
                s.append("missing");
            } catch (IndexOutOfBoundsException e) {
                s.append(']');
            }
        }
        return s.toString();
    }

    private static String state(Model x) {
        StringBuilder s = new StringBuilder();
        for (String word : x.words) {
            s.append(word).append(' ');
        }
        s.append(x.patterns.size()).append(' ').append(x.error);
        for (int row = 0; row < 2; row++) {
            s.append(" [");
            if (x.rows[row] == null) {
                s.append("missing");
                continue;
            }
            for (int i = 0; i < java.lang.reflect.Array.getLength(x.rows[row]); i++) {
                s.append(x.elementBits(row, i)).append(' ');
            }
            s.append(']');
        }
        return s.toString();
    }

    // ---- the arguments

    private static int outside(Random random) {
        int[] values = {-1, -2, 4, 5, 41, 100, 1 << 31, Integer.MAX_VALUE, 1 << 16, -1 << 8};
        return values[random.nextInt(values.length)];
    }

    private static int upTo(Random random, int most) {
        return random.nextInt(40) == 0 ? outside(random) : random.nextInt(most + 1);
    }

    private static int register(Random random) {
        return random.nextInt(50) == 0 ? outside(random) : random.nextInt(4);
    }

    private static int symbol(Random random, Model model) {
        return random.nextInt(30) == 0 ? outside(random) : random.nextInt(model.k + 1) - 1;
    }

    private static int character(Random random, Model model, int seed) {
        if (random.nextInt(60) == 0) {
            return random.nextBoolean() ? outside(random) : 32 + random.nextInt(96);
        }
        String usual = model.input.length() == 0 || seed % 2 == 0 ? "aabb___c((((" : "abc_ab_((())))232579";
        char c = usual.charAt(random.nextInt(usual.length()));
        return c == 'c' && model.k < 3 ? 'a' : c;
    }

    private static int position(Random random, Model model, int register) {
        int size = register >= 0 && register < 4 ? model.words[register].length() : 1;
        return size > 0 && random.nextInt(15) != 0 ? random.nextInt(size) : outside(random);
    }

    private static Object[] arguments(String name, Random random, Model model, int seed) {
        int r = register(random);
        switch (name) {
            case "setLetters":
                return new Object[] {upTo(random, 3)};
            case "append":
                return new Object[] {r, symbol(random, model)};
            case "feed":
                return new Object[] {character(random, model, seed)};
            case "symbol":
                return new Object[] {r, position(random, model, r)};
            case "setSymbol":
                return new Object[] {r, position(random, model, r), symbol(random, model)};
            case "rotate":
                return new Object[] {r, upTo(random, 6)};
            case "concatenate": case "isCompatible": case "isContained": case "conflict": case "occurrences":
                return new Object[] {r, register(random)};
            case "join":
                return new Object[] {r, random.nextBoolean() ? r : register(random), register(random)};
            case "isPeriod":
                return new Object[] {r, position(random, model, r) + 1, random.nextBoolean()};
            case "smallestPeriod":
                return new Object[] {r, random.nextBoolean()};
            case "periodBound":
                return new Object[] {random.nextInt(1003), random.nextInt(50) * 21 % 1005, random.nextInt(20) / 8};
            case "complete":
                return new Object[] {r, number(random, model, r), register(random)};
            case "complexity":
                return new Object[] {r, upTo(random, 6)};
            case "removePattern":
                return new Object[] {random.nextInt(3) == 0 ? outside(random) : random.nextInt(14)};
            case "countAvoiding":
                return new Object[] {upTo(random, 30)};
            case "newRow":
                return new Object[] {upTo(random, 1), upTo(random, 1), random.nextInt(4) == 0 ? upTo(random, 41)
                    : 30 + random.nextInt(12)};
            case "fillDensities":
                return new Object[] {upTo(random, 1), r};
            case "takeRemainder":
                return new Object[] {upTo(random, 1), upTo(random, 40), upTo(random, 20)};
            case "elementBits":
                return new Object[] {upTo(random, 1), upTo(random, 41)};
            case "parseWord": case "length": case "clear": case "reverse": case "holes": case "longestBorder":
            case "isPrimitive": case "exponent": case "completionCount": case "primitiveCompletions":
            case "addPattern": case "avoids": case "avoidingCycle":
                return new Object[] {r};
            default:
                return new Object[0];
        }
    }

    private static long number(Random random, Model model, int register) {
        if (register < 0 || register > 3 || random.nextInt(10) == 0) {
            return random.nextLong();
        }
        BigInteger count = model.completionsOf(register);
        BigInteger drawn = new BigInteger(70, random).mod(count);
        return random.nextInt(10) == 0 ? count.longValue() : drawn.longValue();
    }

    // ---- the model

    /** The document once more, in the plainest form, over strings of a, b, c and _. */
    static final class Model {
        int k = 2;
        final String[] words = {"", "", "", ""};
        List<String> patterns = new ArrayList<>();
        String input = "";
        int error = -1;
        final Object[] rows = new Object[2];
        private int savedLetters;
        private String[] savedWords;
        private List<String> savedPatterns;

        private void check(int... registers) {
            for (int r : registers) {
                if (r < 0 || r > 3) {
                    throw new IllegalArgumentException();
                }
            }
        }

        private char sign(int symbol) {
            if (symbol < -1 || symbol >= k) {
                throw new IllegalArgumentException();
            }
            return symbol == -1 ? '_' : "abc".charAt(symbol);
        }

        private static int symbolOf(char sign) {
            return "_abc".indexOf(sign) - 1;
        }

        int setLetters(int letters) {
            if (letters != 1 && letters != 2 && letters != 3) {
                throw new IllegalArgumentException();
            }
            int previous = k;
            k = letters;
            Arrays.fill(words, "");
            patterns.clear();
            return previous;
        }

        int append(int r, int symbol) {
            check(r);
            char c = sign(symbol);
            if (words[r].length() == 40) {
                throw new IllegalStateException();
            }
            words[r] += c;
            return words[r].length();
        }

        int feed(int character) {
            if (character < 33 || character > 126) {
                throw new IllegalArgumentException();
            }
            if (input.length() == 30) {
                throw new IllegalStateException();
            }
            input += (char) character;
            return input.length();
        }

        int parseWord(int r) {
            check(r);
            String text = input;
            input = "";
            int[] at = {0};
            StringBuilder word = new StringBuilder();
            while (at[0] < text.length()) {
                word.append(item(text, at, 0));
            }
            if (word.length() > 40) {
                throw new IllegalStateException();
            }
            words[r] = word.toString();
            return word.length();
        }

        private RuntimeException errorAt(int position) {
            error = position;
            return new IllegalStateException();
        }

        private String item(String text, int[] at, int open) {
            String sequence;
            if (at[0] >= text.length()) {
                throw errorAt(text.length());
            }
            char c = text.charAt(at[0]);
            if ("_abc".substring(0, k + 1).indexOf(c) >= 0) {
                at[0]++;
                sequence = "" + c;
            } else if (c == '(' && open < 4) {
                at[0]++;
                StringBuilder inner = new StringBuilder(item(text, at, open + 1));
                while (at[0] >= text.length() || text.charAt(at[0]) != ')') {
                    inner.append(item(text, at, open + 1));
                }
                at[0]++;
                sequence = inner.toString();
            } else {
                throw errorAt(at[0]);
            }
            if (at[0] < text.length() && "23456789".indexOf(text.charAt(at[0])) >= 0) {
                sequence = sequence.repeat(text.charAt(at[0]++) - '0');
            }
            return sequence;
        }

        int errorPosition() {
            if (error < 0) {
                throw new NoSuchElementException();
            }
            return error;
        }

        int length(int r) {
            check(r);
            return words[r].length();
        }

        private void checkPosition(int r, int i) {
            if (i < 0 || i >= words[r].length()) {
                throw new IndexOutOfBoundsException();
            }
        }

        int symbol(int r, int i) {
            check(r);
            checkPosition(r, i);
            return symbolOf(words[r].charAt(i));
        }

        int setSymbol(int r, int i, int symbol) {
            check(r);
            char c = sign(symbol);
            checkPosition(r, i);
            char previous = words[r].charAt(i);
            words[r] = words[r].substring(0, i) + c + words[r].substring(i + 1);
            return symbolOf(previous);
        }

        int clear(int r) {
            check(r);
            int previous = words[r].length();
            words[r] = "";
            return previous;
        }

        int concatenate(int to, int from) {
            check(to, from);
            String whole = words[to] + words[from];
            if (whole.length() > 40) {
                throw new IllegalStateException();
            }
            words[to] = whole;
            return whole.length();
        }

        private boolean change(int r, String word) {
            boolean isSame = words[r].equals(word);
            words[r] = word;
            return isSame;
        }

        boolean reverse(int r) {
            check(r);
            return change(r, new StringBuilder(words[r]).reverse().toString());
        }

        boolean rotate(int r, int n) {
            check(r);
            if (n < 0 || n > words[r].length()) {
                throw new IndexOutOfBoundsException();
            }
            return change(r, words[r].substring(n) + words[r].substring(0, n));
        }

        int holes(int r) {
            check(r);
            return words[r].replaceAll("[^_]", "").length();
        }

        private static boolean compatible(String u, String v) {
            return u.length() == v.length() && firstConflict(u, v) < 0;
        }

        private static int firstConflict(String u, String v) {
            for (int i = 0; i < u.length(); i++) {
                if (u.charAt(i) != v.charAt(i) && u.charAt(i) != '_' && v.charAt(i) != '_') {
                    return i;
                }
            }
            return -1;
        }

        boolean isCompatible(int a, int b) {
            check(a, b);
            return compatible(words[a], words[b]);
        }

        boolean isContained(int a, int b) {
            check(a, b);
            return words[b].matches(words[a].replace("_", "[abc_]"));
        }

        int conflict(int a, int b) {
            check(a, b);
            if (words[a].length() != words[b].length()) {
                throw new IllegalStateException();
            }
            return firstConflict(words[a], words[b]);
        }

        int join(int a, int b, int to) {
            check(a, b, to);
            if (!compatible(words[a], words[b])) {
                throw new IllegalStateException();
            }
            StringBuilder joined = new StringBuilder();
            for (int i = 0; i < words[a].length(); i++) {
                joined.append((char) Math.max(low(words[a].charAt(i)), low(words[b].charAt(i))));
            }
            words[to] = joined.toString().replace('A', '_');
            return holes(to);
        }

        /** A hole as a sign that is smaller than the letters. */
        private static char low(char c) {
            return c == '_' ? 'A' : c;
        }

        private static boolean period(String w, int p, boolean isWeak) {
            for (int i = 0; i < w.length(); i++) {
                for (int j = i + 1; j < w.length(); j++) {
                    boolean isBound = isWeak ? j - i == p : (j - i) % p == 0;
                    if (isBound && !compatible(w.substring(i, i + 1), w.substring(j, j + 1))) {
                        return false;
                    }
                }
            }
            return true;
        }

        boolean isPeriod(int r, int p, boolean isWeak) {
            check(r);
            if (p < 1 || p > words[r].length()) {
                throw new IllegalArgumentException();
            }
            return period(words[r], p, isWeak);
        }

        int smallestPeriod(int r, boolean isWeak) {
            check(r);
            if (words[r].isEmpty()) {
                throw new NoSuchElementException();
            }
            int p = 1;
            while (!period(words[r], p, isWeak)) {
                p++;
            }
            return p;
        }

        int periodBound(int p, int q, int holes) {
            if (p < 1 || p > 1000 || q < 1 || q > 1000 || holes < 0 || holes > 1) {
                throw new IllegalArgumentException();
            }
            int divisor = BigInteger.valueOf(p).gcd(BigInteger.valueOf(q)).intValue();
            return holes == 0 ? p + q - divisor : p + q;
        }

        int longestBorder(int r) {
            check(r);
            String w = words[r];
            for (int b = w.length() - 1; b > 0; b--) {
                if (compatible(w.substring(0, b), w.substring(w.length() - b))) {
                    return b;
                }
            }
            return 0;
        }

        boolean isPrimitive(int r) {
            check(r);
            return !words[r].isEmpty() && exponent(r) == 1;
        }

        int exponent(int r) {
            check(r);
            int n = words[r].length();
            if (n == 0) {
                throw new NoSuchElementException();
            }
            int d = 1;
            while (n % d != 0 || !period(words[r], d, false)) {
                d++;
            }
            return n / d;
        }

        BigInteger completionsOf(int r) {
            return BigInteger.valueOf(k).pow(holes(r));
        }

        long completionCount(int r) {
            check(r);
            if (completionsOf(r).bitLength() > 63) {
                throw new ArithmeticException();
            }
            return completionsOf(r).longValue();
        }

        int complete(int r, long number, int to) {
            check(r, to);
            if (number < 0 | number >= completionCount(r)) {
                throw new NoSuchElementException();
            }
            String digits = k == 1 ? "" : BigInteger.valueOf(number).toString(k);
            digits = "0".repeat(Math.max(0, holes(r) - digits.length())) + digits;
            int next = 0;
            StringBuilder full = new StringBuilder();
            for (char c : words[r].toCharArray()) {
                full.append(c == '_' ? "abc".charAt(digits.charAt(next++) - '0') : c);
            }
            words[to] = full.toString();
            return full.length();
        }

        private void collect(String word, Set<String> into) {
            int hole = word.indexOf('_');
            if (hole < 0) {
                into.add(word);
                return;
            }
            for (char c : "abc".substring(0, k).toCharArray()) {
                collect(word.substring(0, hole) + c + word.substring(hole + 1), into);
            }
        }

        int primitiveCompletions(int r) {
            check(r);
            if (holes(r) > 7) {
                throw new IllegalStateException();
            }
            Set<String> all = new HashSet<>();
            collect(words[r], all);
            int count = 0;
            for (String u : all) {
                if (!u.isEmpty() && (u + u).indexOf(u, 1) == u.length()) {
                    count++;
                }
            }
            return count;
        }

        int complexity(int r, int n) {
            check(r);
            if (n < 0 || n > 6) {
                throw new IllegalArgumentException();
            }
            Set<String> all = new HashSet<>();
            Set<String> factors = new HashSet<>();
            for (int i = 0; i + n <= words[r].length(); i++) {
                factors.add(words[r].substring(i, i + n));
            }
            for (String factor : factors) {
                collect(factor, all);
            }
            return all.size();
        }

        private static int count(String pattern, String word) {
            int count = 0;
            for (int i = 0; i + pattern.length() <= word.length(); i++) {
                if (compatible(pattern, word.substring(i, i + pattern.length()))) {
                    count++;
                }
            }
            return count;
        }

        int occurrences(int pattern, int r) {
            check(pattern, r);
            return count(words[pattern], words[r]);
        }

        int addPattern(int r) {
            check(r);
            if (patterns.size() == 12 || words[r].isEmpty() || words[r].length() > 5) {
                throw new IllegalStateException();
            }
            patterns.add(words[r]);
            return patterns.size() - 1;
        }

        int removePattern(int i) {
            if (i < 0 || i >= patterns.size()) {
                throw new IndexOutOfBoundsException();
            }
            patterns.remove(i);
            return patterns.size();
        }

        int patternCount() {
            return patterns.size();
        }

        private static boolean avoiding(String word, List<String> list) {
            for (String pattern : list) {
                if (count(pattern, word) > 0) {
                    return false;
                }
            }
            return true;
        }

        boolean avoids(int r) {
            check(r);
            return avoiding(words[r], patterns);
        }

        private static String end(String word) {
            return word.substring(Math.max(0, word.length() - 4));
        }

        /** The ends of the avoiding words with one more letter, with the number of these words. */
        private Map<String, BigInteger> longer(Map<String, BigInteger> ends, List<String> list) {
            Map<String, BigInteger> next = new HashMap<>();
            for (Map.Entry<String, BigInteger> e : ends.entrySet()) {
                for (char c : "abc".substring(0, k).toCharArray()) {
                    if (avoiding(e.getKey() + c, list)) {
                        next.merge(end(e.getKey() + c), e.getValue(), BigInteger::add);
                    }
                }
            }
            return next;
        }

        /** The length of the longest avoiding words, or -1 if there is none. */
        private int longest(List<String> list) {
            Map<String, BigInteger> ends = Map.of("", BigInteger.ONE);
            for (int n = 0;; n++) {
                Map<String, BigInteger> next = longer(ends, list);
                if (next.isEmpty()) {
                    return n;
                }
                if (next.keySet().equals(ends.keySet())) {
                    return -1;
                }
                // With no more than 81 ends of 4 letters, a longer word has one of them twice.
                if (n > 200) {
                    return -1;
                }
                ends = next;
            }
        }

        boolean isUnavoidable() {
            return longest(patterns) >= 0;
        }

        boolean isMinimal() {
            if (longest(patterns) < 0) {
                return false;
            }
            for (int i = 0; i < patterns.size(); i++) {
                List<String> fewer = new ArrayList<>(patterns);
                fewer.remove(i);
                if (longest(fewer) >= 0) {
                    return false;
                }
            }
            return true;
        }

        int longestAvoiding() {
            int longest = longest(patterns);
            if (longest < 0) {
                throw new NoSuchElementException();
            }
            return longest;
        }

        long countAvoiding(int n) {
            if (n < 0 || n > 30) {
                throw new IllegalArgumentException();
            }
            Map<String, BigInteger> ends = Map.of("", BigInteger.ONE);
            for (int i = 0; i < n; i++) {
                ends = longer(ends, patterns);
            }
            BigInteger sum = BigInteger.ZERO;
            for (BigInteger count : ends.values()) {
                sum = sum.add(count);
            }
            return sum.longValueExact();
        }

        int avoidingCycle(int r) {
            check(r);
            if (longest(patterns) < 0) {
                for (int n = 1; n <= 40; n++) {
                    String cycle = cycle("", n);
                    if (cycle != null) {
                        words[r] = cycle;
                        return n;
                    }
                }
            }
            throw new NoSuchElementException();
        }

        private String cycle(String begun, int n) {
            if (!avoiding(begun, patterns)) {
                return null;
            }
            if (begun.length() == n) {
                return avoiding(begun.repeat(10 / n + 2), patterns) ? begun : null;
            }
            for (char c : "abc".substring(0, k).toCharArray()) {
                String cycle = cycle(begun + c, n);
                if (cycle != null) {
                    return cycle;
                }
            }
            return null;
        }

        int newRow(int row, int type, int size) {
            if (row < 0 || row > 1 || type < 0 || type > 1 || size < 0 || size > 41) {
                throw new IllegalArgumentException();
            }
            rows[row] = type == 0 ? new float[size] : new double[size];
            return size;
        }

        private int sizeOf(int row) {
            if (rows[row] == null) {
                throw new IllegalStateException();
            }
            return java.lang.reflect.Array.getLength(rows[row]);
        }

        private static void checkRow(int row) {
            if (row < 0 || row > 1) {
                throw new IllegalArgumentException();
            }
        }

        int fillDensities(int row, int r) {
            checkRow(row);
            check(r);
            if (sizeOf(row) < words[r].length()) {
                throw new IllegalStateException();
            }
            for (int i = 1; i <= words[r].length(); i++) {
                int holes = words[r].substring(0, i).replaceAll("[^_]", "").length();
                int period = smallestPeriod(r, true);
                if (rows[row] instanceof float[]) {
                    ((float[]) rows[row])[i - 1] = (float) holes / i / period;
                } else {
                    ((double[]) rows[row])[i - 1] = (double) holes / i / period;
                }
            }
            return words[r].length();
        }

        int takeRemainder(int row, int i, int j) {
            checkRow(row);
            int size = sizeOf(row);
            if (i < 0 || i >= size || j < 0 || j >= size) {
                throw new IndexOutOfBoundsException();
            }
            if (rows[row] instanceof float[]) {
                float[] f = (float[]) rows[row];
                if (f[j] == 0) {
                    throw new ArithmeticException();
                }
                f[i] %= f[j];
                return (int) ((double) f[i] * 1000000.0);
            }
            double[] d = (double[]) rows[row];
            if (d[j] == 0) {
                throw new ArithmeticException();
            }
            d[i] %= d[j];
            return (int) (d[i] * 1000000.0);
        }

        long elementBits(int row, int i) {
            checkRow(row);
            if (i < 0 | i >= sizeOf(row)) {
                throw new IndexOutOfBoundsException();
            }
            return rows[row] instanceof float[] ? Float.floatToIntBits(((float[]) rows[row])[i])
                : Double.doubleToLongBits(((double[]) rows[row])[i]);
        }

        int saveSnapshot() {
            savedLetters = k;
            savedWords = words.clone();
            savedPatterns = new ArrayList<>(patterns);
            return patterns.size();
        }

        int restoreSnapshot() {
            if (savedWords == null) {
                throw new IllegalStateException();
            }
            k = savedLetters;
            System.arraycopy(savedWords, 0, words, 0, 4);
            patterns = new ArrayList<>(savedPatterns);
            return patterns.size();
        }
    }
}
