import java.lang.reflect.InvocationTargetException;
import java.lang.reflect.Method;
import java.lang.reflect.Modifier;
import java.nio.file.Files;
import java.nio.file.Path;
import java.util.ArrayList;
import java.util.BitSet;
import java.util.HashMap;
import java.util.List;
import java.util.Map;
import java.util.TreeMap;
import java.util.TreeSet;
import java.util.regex.Matcher;
import java.util.regex.Pattern;

/**
 * The document, sentence by sentence: says(..) quotes a sentence of the section that is open, and the checks behind it
 * are that sentence's test. A sentence of the document that is not quoted, a quotation that the document does not have
 * and a quotation without a check are faults. Each refused call is tested for the state, too: an object that got the
 * call must answer all that follows as one that did not get it.
 */
public final class BoundaryTest {
    private static final String ARGUMENT = "IllegalArgumentException";
    private static final String STATE = "IllegalStateException";
    private static final String INDEX = "IndexOutOfBoundsException";
    private static final String ARITHMETIC = "ArithmeticException";
    private static final String NO_ELEMENT = "NoSuchElementException";
    private static final String MIN = "-2147483648";
    private static final String MAX = "2147483647";
    private static final String[] NO_REGISTER = {"-1", "4", MIN, MAX};
    private static final String[] NO_ROW = {"-1", "2", MIN, MAX};
    private static final String[] NO_SYMBOL = {"-2", "2", "3", MIN, MAX};
    private static final Pattern CALL = Pattern.compile("(\\w+)\\(([^()]*)\\)");

    /** Lists of 12 patterns over three letters, from a search; their answers were counted apart from HoleWords. */
    private static final String[] LONGEST_58 = ("bccba b_bc aaaac b__bb c_a_b a___b c___c a_c_c bab acbbc a_ab "
        + "aa_aa").split(" ");
    private static final String[] LONGEST_56_MINIMAL = ("aa_aa b___a b___c ca__c ba_bb bac ccccc cc__a bbbbb baba "
        + "a_cac cb__c").split(" ");
    private static final String[] LONGEST_40 = ("aaaa c_ca cc_c a___b caca cc__b c___c bc_c a__b bb_bb c_ac "
        + "ccbbb").split(" ");
    private static final String[] CYCLE_41 = ("b_bac b_c_a b_a_c a___c c_c_c baaa_ c__c_ a___a c___b b___b caaac "
        + "ababb").split(" ");
    private static final String[] CYCLE_40 = ("c___c b_a_c a_aba b___b _cccb c___a _aa b_b_a bb_bc a_a_b a_aca "
        + "b_c_a").split(" ");

    private static final Map<String, Method> METHODS = new HashMap<>();
    private static final Map<String, String> SECTIONS = new TreeMap<>();
    private static final Map<String, BitSet> QUOTED = new TreeMap<>();

    private static String section = "";
    private static String sentence = "";
    private static int checksOfSentence = 0;
    private static int checks = 0;
    private static int sentences = 0;
    private static int wrong = 0;

    public static void main(String[] args) throws Exception {
        for (Method m : HoleWords.class.getDeclaredMethods()) {
            if (Modifier.isPublic(m.getModifiers())) {
                METHODS.put(m.getName(), m);
            }
        }
        readDocument(Files.readString(Path.of(System.getProperty("doc"))));
        whatItIs();
        description();
        wordMethods();
        relationMethods();
        periodMethods();
        completionMethods();
        patternMethods();
        rowMethods();
        snapshotMethods();
        endSentence();
        unquoted();
        System.out.println("BoundaryTest: " + sentences + " sentences, " + checks + " checks, " + wrong + " wrong");
        if (wrong != 0) {
            System.exit(1);
        }
    }

    // ---- the document

    private static void readDocument(String text) {
        for (String part : text.split("(?m)^## ")) {
            int end = part.indexOf('\n');
            if (end > 0 && part.matches("(?s)(Promise |Description|What it is).*")) {
                String title = part.substring(0, end).replaceAll(":.*", "");
                // The signature and the name of the group stand before the sentences of a promise.
                String body = part.substring(end).replaceFirst("(?s)\\A\\s*`[^`]*`\\s*", " ")
                    .replaceFirst("(?m)\\A\\s*---- .*$", " ");
                SECTIONS.put(title, body.replaceAll("\\s+", " ").trim());
                QUOTED.put(title, new BitSet());
            }
        }
        tell(SECTIONS.size() == 46, "the document has " + SECTIONS.size() + " sections");
    }

    private static void open(String title) {
        endSentence();
        section = title;
    }

    private static void promise(int number) {
        open("Promise " + number);
    }

    /** Begins the test of a sentence of the open section. */
    private static void says(String quotation) {
        endSentence();
        sentence = quotation;
        checksOfSentence = 0;
        sentences++;
        quote(quotation);
    }

    /** A piece of the open section that promises nothing: a heading, or what a parameter is called. */
    private static void names(String quotation) {
        endSentence();
        quote(quotation);
    }

    private static void endSentence() {
        tell(sentence.isEmpty() || checksOfSentence > 0, "there is no check");
        sentence = "";
    }

    private static void quote(String quotation) {
        String text = SECTIONS.getOrDefault(section, "");
        int found = text.indexOf(quotation);
        tell(found >= 0, "the document does not say: " + quotation);
        while (found >= 0) {
            QUOTED.get(section).set(found, found + quotation.length());
            found = text.indexOf(quotation, found + 1);
        }
    }

    private static void unquoted() {
        for (Map.Entry<String, String> entry : SECTIONS.entrySet()) {
            section = entry.getKey();
            StringBuilder rest = new StringBuilder();
            for (int i = 0; i < entry.getValue().length(); i++) {
                rest.append(QUOTED.get(section).get(i) ? ' ' : entry.getValue().charAt(i));
            }
            String left = rest.toString().trim().replaceAll("\\s+", " ");
            tell(left.isEmpty(), "not quoted: " + left);
        }
    }

    private static void tell(boolean isRight, String what) {
        if (!isRight) {
            wrong++;
            System.out.println(section + ": " + (sentence.isEmpty() ? "" : sentence + " -- ") + what);
        }
    }

    private static void due(String what, Object got, Object want) {
        checks++;
        checksOfSentence++;
        tell(String.valueOf(got).equals(String.valueOf(want)), what + " answered " + got + ", due is " + want);
    }

    // ---- calls

    /** Makes a call that is written as in the document; an exception is answered as the document writes it. */
    private static String answer(HoleWords x, String call) {
        Matcher m = CALL.matcher(call.trim());
        if (!m.matches() || !METHODS.containsKey(m.group(1))) {
            throw new IllegalArgumentException("not a call: " + call);
        }
        Method method = METHODS.get(m.group(1));
        String[] given = m.group(2).isEmpty() ? new String[0] : m.group(2).split(", *");
        Class<?>[] types = method.getParameterTypes();
        Object[] arguments = new Object[types.length];
        for (int i = 0; i < types.length; i++) {
            arguments[i] = types[i] == boolean.class ? (Object) Boolean.valueOf(given[i])
                : types[i] == long.class ? (Object) Long.valueOf(given[i]) : (Object) Integer.valueOf(given[i]);
        }
        try {
            return String.valueOf(method.invoke(x, arguments));
        } catch (InvocationTargetException e) {
            boolean isOfMachine = String.valueOf(e.getCause().getMessage()).equals("/ by zero");
            return "throws " + (isOfMachine ? "by the machine " : "") + e.getCause().getClass().getSimpleName();
        } catch (IllegalAccessException e) {
            throw new IllegalStateException(e);
        }
    }

    private static HoleWords replay(List<String> calls) {
        HoleWords x = new HoleWords();
        for (String call : calls) {
            answer(x, call);
        }
        return x;
    }

    private static String wordOf(HoleWords x, int register) {
        StringBuilder text = new StringBuilder();
        int size = Integer.parseInt(answer(x, "length(" + register + ")"));
        for (int i = 0; i < size; i++) {
            int symbol = Integer.parseInt(answer(x, "symbol(" + register + ", " + i + ")"));
            text.append(symbol < 0 ? '_' : (char) ('a' + symbol));
        }
        return text.toString();
    }

    /**
     * All that can be learnt of the state that some calls leave behind, but for the input and the error position. Each
     * part is asked of an object of its own, since asking may change it, and no object gets more than 512 calls.
     */
    private static String stateAfter(List<String> calls) {
        HoleWords restored = replay(calls);
        String snapshot = answer(restored, "restoreSnapshot()") + " " + savedState(restored);
        restored = replay(calls);
        answer(restored, "restoreSnapshot()");
        return savedState(replay(calls)) + lettersAndPatterns(replay(calls)) + rowsOf(replay(calls)) + " snapshot "
            + snapshot + lettersAndPatterns(restored);
    }

    private static String rowsOf(HoleWords x) {
        StringBuilder state = new StringBuilder();
        for (int row = 0; row < 2; row++) {
            String bits = "";
            for (int i = 0; i < 42 && !bits.startsWith("throws"); i++) {
                bits = answer(x, "elementBits(" + row + ", " + i + ")");
                state.append(' ').append(bits);
            }
        }
        // Rows of zeros do not tell their type: the density 1.0 does.
        answer(x, "clear(0)");
        answer(x, "append(0, -1)");
        for (int row = 0; row < 2; row++) {
            state.append(" row ").append(answer(x, "fillDensities(" + row + ", 0)")).append(' ')
                .append(answer(x, "elementBits(" + row + ", 0)"));
        }
        return state.toString();
    }

    private static String savedState(HoleWords x) {
        StringBuilder state = new StringBuilder();
        for (int r = 0; r < 4; r++) {
            state.append(wordOf(x, r)).append('/');
        }
        state.append(answer(x, "patternCount()"));
        for (int n = 1; n <= 6; n++) {
            state.append(' ').append(answer(x, "countAvoiding(" + n + ")"));
        }
        return state.append(' ').append(answer(x, "isUnavoidable()")).append(answer(x, "isMinimal()")).toString();
    }

    private static String lettersAndPatterns(HoleWords x) {
        StringBuilder state = new StringBuilder(" letters");
        answer(x, "clear(1)");
        for (int symbol = 0; symbol < 4; symbol++) {
            state.append(' ').append(answer(x, "append(1, " + symbol + ")"));
        }
        state.append(" patterns");
        for (int i = 0; i < 12; i++) {
            state.append(' ').append(answer(x, "removePattern(0)")).append(' ').append(answer(x, "countAvoiding(6)"));
        }
        return state.toString();
    }

    private static String inputAfter(List<String> calls) {
        HoleWords x = replay(calls);
        StringBuilder state = new StringBuilder("error " + answer(x, "errorPosition()"));
        state.append(" input ").append(answer(x, "parseWord(0)")).append(' ').append(wordOf(x, 0));
        state.append(' ').append(answer(x, "errorPosition()"));
        return state.append(" size ").append(answer(replay(calls), "feed(97)")).toString();
    }

    private static Play play() {
        return new Play();
    }

    /** An object of so many letters, with words in its first registers. */
    private static Play play(int letters, String... words) {
        Play p = new Play();
        p.call("setLetters(" + letters + ")");
        for (int r = 0; r < words.length; r++) {
            p.word(r, words[r]);
        }
        return p;
    }

    /** An object in which nothing is as at first: words, patterns, input, error position, rows and snapshot. */
    private static Play rich() {
        Play p = play(3, "abc", "_", "", "cc").list("c", "a_a").words("ca_", "", "b").text("a)");
        p.call("parseWord(0)");
        p.call("saveSnapshot()");
        p.call("setLetters(2)");
        p.words("a_bb", "ab", "", "_a__a").list("bbb", "a_a");
        p.call("newRow(0, 0, 6)");
        p.call("newRow(1, 1, 7)");
        p.call("fillDensities(0, 3)");
        p.call("fillDensities(1, 0)");
        return p.words("a_bb", "ab", "", "_a__a").text("ab2_");
    }

    /** An object and the calls that it has got. */
    private static final class Play {
        private final HoleWords x = new HoleWords();
        private final List<String> calls = new ArrayList<>();

        private String call(String call) {
            calls.add(call);
            return answer(x, call);
        }

        /** Calls with the answers that are due, as the document writes them: "clear(0) = 2; append(0, 1) = 1". */
        Play is(String script) {
            for (String line : script.split(";")) {
                int end = line.lastIndexOf(" = ");
                String call = line.substring(0, end).trim();
                due(call, call(call), line.substring(end + 3).trim());
            }
            return this;
        }

        /** Calls that must throw this exception and leave all as it was. */
        Play refuses(String exception, String... refused) {
            String state = stateAfter(calls) + inputAfter(calls);
            for (String call : refused) {
                due(call, answer(x, call), "throws " + exception);
                List<String> more = new ArrayList<>(calls);
                more.add(call);
                due("the state after " + call, stateAfter(more) + inputAfter(more), state);
            }
            return this;
        }

        /** Parses an input that is no word, or a word that is too long: the input goes, the rest stays. */
        Play parseRefused(int register) {
            String state = stateAfter(calls);
            due("parseWord", call("parseWord(" + register + ")"), "throws " + STATE);
            due("the state after parseWord", stateAfter(calls), state);
            return is("feed(97) = 1; parseWord(" + register + ") = 1");
        }

        Play word(int register, String text) {
            call("clear(" + register + ")");
            for (char c : text.toCharArray()) {
                call("append(" + register + ", " + (c == '_' ? -1 : c - 'a') + ")");
            }
            return this;
        }

        Play words(String... texts) {
            for (int r = 0; r < texts.length; r++) {
                word(r, texts[r]);
            }
            return this;
        }

        Play text(String input) {
            for (char c : input.toCharArray()) {
                call("feed(" + (int) c + ")");
            }
            return this;
        }

        /** Adds patterns; the register 3 is empty afterwards. */
        Play list(String... patterns) {
            for (String pattern : patterns) {
                word(3, pattern);
                call("addPattern(3)");
            }
            return word(3, "");
        }

        Play holds(int register, String text) {
            due("the word of register " + register, wordOf(x, register), text);
            return this;
        }
    }

    private static String[] each(String call, String... arguments) {
        String[] calls = new String[arguments.length];
        for (int i = 0; i < arguments.length; i++) {
            calls[i] = call.replace("?", arguments[i]);
        }
        return calls;
    }

    private static String many(String symbol, int times) {
        return symbol.repeat(times);
    }

    // ---- What it is

    private static void whatItIs() {
        open("What it is");
        names("Words with holes (partial words): compatibility, strong and weak periods, borders, primitivity, completions, "
            + "subword complexity, and unavoidable sets of patterns.");
        says("An object is used for at most 512 calls after it has been made; what later calls answer is free.");
        // Nothing is used up by calls: the last ones of 512 are answered as the first ones.
        Play p = play();
        for (int round = 0; round < 64; round++) {
            p.is("feed(97) = 1; parseWord(0) = 1; addPattern(0) = 0; saveSnapshot() = 1; removePattern(0) = 0")
                .is("newRow(0, 1, 41) = 41; concatenate(0, 0) = 2; clear(0) = 2");
        }
        p = play(3);
        for (int round = 0; round < 255; round++) {
            p.is("isMinimal() = false; avoidingCycle(0) = 1");
        }
        p.is("countAvoiding(30) = 205891132094649");
        p = play();
        for (int round = 0; round < 512; round++) {
            p.is("restoreSnapshot() = throws " + STATE);
        }
    }

    // ---- Description

    private static void description() {
        open("Description");
        names("Words.");
        names("Relations.");
        names("Periods.");
        names("Borders.");
        names("Primitivity.");
        names("Completions.");
        names("Patterns.");
        names("Text.");
        names("Rows.");
        names("Exceptions.");
        names("The constructor and the methods follow, a promise each: the signature, then what it does.");
        describedWords();
        describedRelations();
        describedPeriods();
        describedCompletions();
        describedPatterns();
        describedTexts();
        describedErrors();
        describedRows();
        describedExceptions();
        describedOrder();
        examples();
    }

    private static void describedWords() {
        says("The alphabet has k letters, 1 to 3, which are numbered from 0 and written a, b, c; k is 2 at first.");
        play().is("append(0, 0) = 1; append(0, 1) = 2").refuses(ARGUMENT, "append(0, 2)").text("ab").is("parseWord(1) = 2")
            .is("symbol(1, 0) = 0; symbol(1, 1) = 1").text("c").parseRefused(1).is("setLetters(2) = 2");
        play().is("setLetters(1) = 2; append(0, 0) = 1").refuses(ARGUMENT, "append(0, 1)").text("b").parseRefused(0);
        play().is("setLetters(3) = 2; append(0, 2) = 1").refuses(ARGUMENT, "append(0, 3)").text("abc")
            .is("parseWord(0) = 3; symbol(0, 2) = 2").text("d").parseRefused(0);

        says("A word is a sequence of at most 40 symbols, each of which is a letter or a hole.");
        play(2, many("a_b_", 10), "_").is("length(0) = 40").refuses(STATE, "append(0, 0)", "append(0, -1)",
            "concatenate(0, 1)", "concatenate(1, 0)");
        play().text("((a_)5(b_)5)2").is("parseWord(0) = 40").text("((a_)5(b_)5)2_").parseRefused(0);

        says("A hole is given as -1 and written _.");
        play().is("append(0, -1) = 1; symbol(0, 0) = -1; holes(0) = 1").text("a_").is("parseWord(1) = 2; symbol(1, 1) = -1")
            .is("setSymbol(1, 0, -1) = 0; symbol(1, 0) = -1; holes(1) = 2");

        says("A word without holes is full.");
        play(2, "ab", "", "a_").is("completionCount(0) = 1; complete(0, 0, 3) = 2").holds(3, "ab").is("completionCount(1) = 1")
            .is("complete(1, 0, 3) = 0; completionCount(2) = 2; complexity(2, 2) = 2; complexity(0, 2) = 1");

        says("There are four registers, numbered 0 to 3, each of which holds a word and is empty at first.");
        Play p = play();
        for (int r = 0; r < 4; r++) {
            p.is("length(" + r + ") = 0");
        }
        p.is("append(0, 0) = 1; append(1, 1) = 1; append(2, -1) = 1; append(3, 0) = 1; append(3, 1) = 2");
        p.holds(0, "a").holds(1, "b").holds(2, "_").holds(3, "ab");
        p.refuses(ARGUMENT, each("length(?)", NO_REGISTER));

        says("The positions of a word are numbered from 0.");
        play(2, "ab", "bb", "").is("symbol(0, 0) = 0; symbol(0, 1) = 1; conflict(0, 1) = 0; setSymbol(0, 0, -1) = 0")
            .refuses(INDEX, "symbol(0, 2)", "symbol(0, -1)", "symbol(2, 0)").holds(0, "_b");

        says("A factor of a word is a sequence of consecutive symbols of it, possibly empty.");
        play(3, "acb", "ab", "", "cb").is("occurrences(1, 0) = 0; occurrences(3, 0) = 1; occurrences(2, 0) = 4")
            .is("complexity(0, 0) = 1; complexity(0, 2) = 2; complexity(0, 3) = 1; occurrences(0, 0) = 1");
    }

    private static void describedRelations() {
        says("Two words are compatible if they have the same length and no position at which both have letters that "
            + "differ.");
        play(3, "a_c", "_bc", "ab", "b_c").is("isCompatible(0, 1) = true; isCompatible(1, 0) = true")
            .is("isCompatible(0, 2) = false; isCompatible(2, 0) = false; isCompatible(0, 3) = false")
            .is("isCompatible(1, 3) = true; isCompatible(0, 0) = true");
        play(2, "", "_", "__a", "__b").is("isCompatible(0, 0) = true; isCompatible(0, 1) = false")
            .is("isCompatible(1, 0) = false; isCompatible(2, 3) = false");

        says("A word is contained in another one if they have the same length and, wherever the first one has a letter, "
            + "the second one has the same letter.");
        play(2, "_b_", "ab_", "bb_", "a__").is("isContained(0, 1) = true; isContained(1, 0) = false")
            .is("isContained(0, 2) = true; isContained(3, 1) = true; isContained(3, 2) = false; isContained(3, 0) = false");
        play(2, "_", "__", "", "a").is("isContained(0, 1) = false; isContained(1, 0) = false; isContained(2, 2) = true")
            .is("isContained(2, 0) = false; isContained(0, 3) = true; isContained(3, 0) = false; isContained(3, 3) = true");

        says("The join of two compatible words has, at each position, the letter that one of both has, or a hole if both "
            + "have holes.");
        play(3, "a__c", "_b_c").is("join(0, 1, 2) = 1").holds(2, "ab_c").is("join(1, 0, 3) = 1").holds(3, "ab_c");
        play(2, "_", "_").is("join(0, 1, 2) = 1").holds(2, "_");
    }

    private static void describedPeriods() {
        says("Let n be the length of a word and p a number from 1 to n. p is a strong period if no two positions whose "
            + "difference is a multiple of p have letters that differ.");
        play(2, "a_b", "a__b", "a____b", "b_a___").is("isPeriod(0, 1, false) = false; isPeriod(0, 2, false) = false")
            .is("isPeriod(1, 1, false) = false; isPeriod(1, 2, false) = true; isPeriod(1, 3, false) = false")
            .is("isPeriod(2, 1, false) = false; isPeriod(2, 2, false) = true; isPeriod(2, 3, false) = true")
            .is("isPeriod(2, 4, false) = true; isPeriod(2, 5, false) = false; isPeriod(3, 1, false) = false")
            .is("isPeriod(3, 2, false) = false; isPeriod(3, 3, false) = true");

        says("p is a weak period if no two positions whose difference is exactly p have letters that differ.");
        play(2, "a_b", "a__b", "ab", "a____b").is("isPeriod(0, 1, true) = true; isPeriod(0, 2, true) = false")
            .is("isPeriod(1, 1, true) = true; isPeriod(1, 2, true) = true; isPeriod(1, 3, true) = false")
            .is("isPeriod(2, 1, true) = false; isPeriod(3, 1, true) = true; isPeriod(3, 5, true) = false");

        says("So n is always both.");
        play(2, "ab", "a", "_", many("a", 39) + "b").is("isPeriod(0, 2, true) = true; isPeriod(0, 2, false) = true")
            .is("isPeriod(1, 1, true) = true; isPeriod(1, 1, false) = true; isPeriod(2, 1, true) = true")
            .is("isPeriod(2, 1, false) = true; isPeriod(3, 40, true) = true; isPeriod(3, 40, false) = true")
            .is("isPeriod(3, 39, true) = false; isPeriod(3, 39, false) = false; smallestPeriod(3, true) = 40");

        says("A border of a word is a length b, with 0 < b < n, such that the first b and the last b symbols of the word "
            + "are compatible.");
        play(2, "aa", "a", "ab", "a_b").is("longestBorder(0) = 1; longestBorder(1) = 0; longestBorder(2) = 0")
            .is("longestBorder(3) = 2");
        play(2, "", "_", "__", "aaabaaa").is("longestBorder(0) = 0; longestBorder(1) = 0; longestBorder(2) = 1")
            .is("longestBorder(3) = 3");

        says("The exponent of a word that is not empty is n / d for the smallest strong period d that divides n.");
        play(2, "aabaa", "a_b", "a_b_a_", "a").is("exponent(0) = 1; smallestPeriod(0, false) = 3")
            .is("exponent(1) = 1; smallestPeriod(1, true) = 1; exponent(2) = 2; exponent(3) = 1");
        play(2, "a__b", "aba__b", many("ab", 20), many("_", 40)).is("exponent(0) = 2; exponent(1) = 3; exponent(2) = 20")
            .is("exponent(3) = 40; clear(0) = 4").refuses(NO_ELEMENT, "exponent(0)");

        says("The word is primitive if its exponent is 1.");
        play(2, "aabaa", "aa", "a_", "a").is("isPrimitive(0) = true; isPrimitive(1) = false; isPrimitive(2) = false")
            .is("isPrimitive(3) = true; exponent(0) = 1; exponent(1) = 2; exponent(2) = 2; exponent(3) = 1");

        says("The empty word is not primitive.");
        play().is("isPrimitive(0) = false; primitiveCompletions(0) = 0; append(0, 0) = 1; isPrimitive(0) = true; clear(0) = 1")
            .is("isPrimitive(0) = false");
    }

    private static void describedCompletions() {
        says("A completion of a word is a full word in which it is contained.");
        Play p = play(2, "_a_");
        p.is("completionCount(0) = 4");
        for (int i = 0; i < 4; i++) {
            p.is("complete(0, " + i + ", 1) = 3; holes(1) = 0; isContained(0, 1) = true");
        }

        says("Completions are numbered from 0 in lexicographic order.");
        p = play(3, "_b_", "a_");
        String[] all = {"aba", "abb", "abc", "bba", "bbb", "bbc", "cba", "cbb", "cbc"};
        for (int i = 0; i < all.length; i++) {
            p.is("complete(0, " + i + ", 2) = 3").holds(2, all[i]);
        }
        p.refuses(NO_ELEMENT, "complete(0, -1, 2)", "complete(0, 9, 2)").is("complete(1, 0, 2) = 2").holds(2, "aa");
    }

    private static void describedPatterns() {
        says("There is a list of at most 12 patterns, numbered from 0, which is empty at first.");
        Play p = play(2, "ab").is("patternCount() = 0").refuses(INDEX, "removePattern(0)");
        for (int i = 0; i < 12; i++) {
            p.is("addPattern(0) = " + i);
        }
        p.is("patternCount() = 12").refuses(STATE, "addPattern(0)").is("removePattern(11) = 11; addPattern(0) = 11");

        says("A pattern is a word of 1 to 5 symbols.");
        play(2, "a", "aaaaa", "", "aaaaaa").is("addPattern(0) = 0; addPattern(1) = 1")
            .refuses(STATE, "addPattern(2)", "addPattern(3)").word(0, many("b", 40)).refuses(STATE, "addPattern(0)")
            .word(0, "_").is("addPattern(0) = 2").word(0, "_____").is("addPattern(0) = 3");

        says("A word avoids the patterns if no factor of it is compatible with a pattern.");
        play(2, "bbaba", "bbaab", "aaa_aa", "").list("aba").is("avoids(0) = false; avoids(1) = true; avoids(2) = false")
            .is("avoids(3) = true; setSymbol(2, 3, 0) = -1; avoids(2) = true");
        play(2, "b", "_b", "ab_", "").list("a_").is("avoids(0) = true; avoids(1) = false; avoids(2) = false; avoids(3) = true")
            .word(0, "a").is("avoids(0) = true").word(0, "ba").is("avoids(0) = true");

        says("The list is unavoidable if there is a number such that no full word of this or a greater length avoids the "
            + "patterns, and avoidable otherwise.");
        play(2).is("isUnavoidable() = false").list("aa").is("isUnavoidable() = false").list("bb")
            .is("isUnavoidable() = false").list("aba").is("isUnavoidable() = true; countAvoiding(4) = 0")
            .is("countAvoiding(3) = 1; longestAvoiding() = 3");
        play(1).list("aaaaa").is("isUnavoidable() = true").is("countAvoiding(5) = 0; countAvoiding(4) = 1");
        play(3).list("aaaaa", "bbbbb").is("isUnavoidable() = false; countAvoiding(30) = 177389793961681");
    }

    private static void describedTexts() {
        says("A word can be read from the input, which holds at most 30 characters.");
        play().text(many("ab", 15)).refuses(STATE, "feed(97)", "feed(33)").is("parseWord(0) = 30").holds(0, many("ab", 15))
            .is("feed(97) = 1");

        says("The grammar is, with terminals in quotes: word: { item } "
            + "item: ( letter | \"_\" | \"(\" item { item } \")\" ) [ digit ]");
        play().is("parseWord(0) = 0").text("a").is("parseWord(0) = 1").text("_").is("parseWord(0) = 1").holds(0, "_")
            .text("(ab)").is("parseWord(0) = 2").holds(0, "ab").text("(a)(b)2a2(_)").is("parseWord(0) = 6")
            .holds(0, "abbaa_").text("((a2)2b)2").is("parseWord(0) = 10").holds(0, "aaaabaaaab");
        for (String text : new String[] {"()", "a()", "(", ")", "2", "(2a)", "a22", "(a)23", "(a", "a)", "ab-", "A", "[a]", "a(2b)",
            "a(b)(2)", "`", "{", "a`", "a^"}) {
            play().text(text).parseRefused(0);
            // The text before it leaves nothing behind that could make it a word.
            play().text("(ab)_").is("parseWord(1) = 3").text(text).parseRefused(0);
            play().text("((a").parseRefused(0).text(text).parseRefused(0);
        }

        says("A letter must be in the alphabet.");
        play(1).text("ab").parseRefused(0).is("errorPosition() = 1");
        play(2).text("abc").parseRefused(0).is("errorPosition() = 2");
        play(3).text("abc").is("parseWord(0) = 3").text("abcd").parseRefused(0).is("errorPosition() = 3");
        play(3).text("abc").is("setLetters(2) = 3").parseRefused(0).is("errorPosition() = 2");

        says("A digit is from 2 to 9; the symbol or the word in parentheses before it is repeated so often.");
        for (int digit = 2; digit <= 9; digit++) {
            play().text("ba" + digit).is("parseWord(0) = " + (1 + digit)).holds(0, "b" + many("a", digit))
                .text("b_" + digit).is("parseWord(0) = " + (1 + digit)).holds(0, "b" + many("_", digit))
                .text("b(ab_b)" + digit + "a").is("parseWord(0) = " + (2 + 4 * digit))
                .holds(0, "b" + many("ab_b", digit) + "a");
        }
        for (String text : new String[] {"a0", "a1", "a:", "a/", "(a)0", "(a)1"}) {
            play().text(text).parseRefused(0).is("errorPosition() = " + (text.length() - 1));
        }

        says("At most 4 parentheses may be open at the same time.");
        play().text("((((a)b)a)b)").is("parseWord(0) = 4").holds(0, "abab").text("((((a))))((((b))))").is("parseWord(0) = 2")
            .holds(0, "ab").text("((((a)(b)2)))").is("parseWord(0) = 3").holds(0, "abb")
            .text("(((((a)))))").parseRefused(0).text("((((a)((b))").parseRefused(0);
    }

    private static void describedErrors() {
        says("The error position of a text is the offset of the first character that cannot continue a word, or the "
            + "length of the text if it ends too early; for a fifth open parenthesis it is the offset of that parenthesis.");
        String[] texts = {"?", "a?b?", "(", "((((", "(a", "ab(a2", "()", "a22", "a2b2(2", "(((((", "((((a(", "((((a)b)(((", ")",
            "(a))", "((a)2", "abcab(", many("a", 29) + "2", many("ab", 14) + "a(", many("a", 29) + "?", "((((a9)9)9)9)9?",
            "a9a9a9a9a9(", "((((a9)9)9)9(("};
        int[] positions = {0, 1, 1, 4, 2, 5, 1, 2, 5, 4, 5, 10, 0, 3, 5, 2, -1, 30, 29, 14, 11, 14};
        for (int i = 0; i < texts.length; i++) {
            Play p = play().text(texts[i]);
            if (positions[i] >= 0) {
                p.parseRefused(0).is("errorPosition() = " + positions[i]);
            } else {
                p.is("parseWord(0) = 30").refuses(NO_ELEMENT, "errorPosition()");
            }
        }
    }

    private static void describedRows() {
        says("There are two rows, numbered 0 and 1, which are missing at first.");
        play(2, "_").refuses(STATE, "elementBits(0, 0)", "elementBits(1, 0)", "fillDensities(0, 0)", "fillDensities(1, 0)")
            .is("newRow(0, 0, 1) = 1; fillDensities(0, 0) = 1").refuses(STATE, "elementBits(1, 0)")
            .is("newRow(1, 0, 2) = 2; elementBits(1, 0) = 0").refuses(ARGUMENT, each("newRow(?, 0, 1)", NO_ROW));
        play().is("newRow(1, 1, 1) = 1; elementBits(1, 0) = 0").refuses(STATE, "elementBits(0, 0)");

        says("A row holds numbers of type float (type 0) or double (type 1).");
        play(2, "_").is("newRow(0, 0, 1) = 1; newRow(1, 1, 1) = 1; fillDensities(0, 0) = 1; fillDensities(1, 0) = 1")
            .is("elementBits(0, 0) = 1065353216; elementBits(1, 0) = 4607182418800017408");
    }

    // ---- exceptions

    private static void describedExceptions() {
        says("A method that throws an exception leaves the state unchanged, unless its documentation says otherwise.");
        // One call for each line of the document that begins with Throws, on an object in which nothing is as at first.
        rich().refuses(ARGUMENT, "setLetters(0)", "append(4, 0)", "append(0, 2)", "feed(32)", "parseWord(4)", "length(4)",
            "symbol(4, 0)", "setSymbol(4, 0, 0)", "setSymbol(0, 0, 2)", "clear(4)", "concatenate(0, 4)", "concatenate(4, 0)",
            "reverse(4)", "rotate(4, 1)", "holes(4)", "isCompatible(0, 4)", "isContained(0, 4)", "conflict(0, 4)",
            "join(0, 0, 4)", "join(0, 4, 1)", "isPeriod(4, 1, true)", "isPeriod(0, 5, true)", "smallestPeriod(4, true)",
            "periodBound(0, 1, 1)", "longestBorder(4)", "isPrimitive(4)", "exponent(4)", "completionCount(4)",
            "complete(0, 1, 4)", "complete(4, 0, 0)", "primitiveCompletions(4)", "complexity(4, 1)", "complexity(0, 7)",
            "occurrences(0, 4)", "addPattern(4)", "avoids(4)", "countAvoiding(31)", "avoidingCycle(4)", "newRow(2, 0, 1)",
            "newRow(0, 2, 1)", "newRow(0, 1, 42)", "fillDensities(2, 0)", "fillDensities(0, 4)", "takeRemainder(2, 0, 0)",
            "elementBits(2, 0)");
        rich().refuses(STATE, "conflict(0, 1)", "join(0, 1, 2)", "addPattern(2)")
            .refuses(INDEX, "symbol(0, 4)", "setSymbol(0, 4, 0)", "rotate(0, 5)", "removePattern(2)", "takeRemainder(0, 6, 0)",
                "takeRemainder(0, 0, 6)", "elementBits(0, 6)", "takeRemainder(1, -1, 3)", "takeRemainder(1, 3, 7)")
            .refuses(ARITHMETIC, "takeRemainder(1, 1, 6)", "takeRemainder(0, 0, 5)", "takeRemainder(1, 1, 0)")
            .refuses(NO_ELEMENT, "smallestPeriod(2, true)", "exponent(2)", "complete(0, 2, 1)", "longestAvoiding()");
        rich().word(2, many("_", 40)).refuses(STATE, "append(2, 0)", "concatenate(2, 0)", "concatenate(0, 2)",
            "concatenate(2, 2)", "primitiveCompletions(2)", "fillDensities(0, 2)");
        rich().text(many("a", 26)).refuses(STATE, "feed(97)");
        rich().list("_").refuses(NO_ELEMENT, "avoidingCycle(0)");
        rich().text("(").parseRefused(0);
        rich().text("b9b9b9b9b9").parseRefused(0);
        play(3, many("_", 40), "a").list("ab").refuses(ARITHMETIC, "completionCount(0)", "complete(0, 0, 1)")
            .refuses(STATE, "restoreSnapshot()", "takeRemainder(0, 0, 0)", "elementBits(1, 0)", "fillDensities(1, 1)")
            .refuses(NO_ELEMENT, "errorPosition()");

        says("Every method with a parameter called register throws an IllegalArgumentException if there is no such "
            + "register.");
        String[] calls = {"append(?, 0)", "parseWord(?)", "length(?)", "symbol(?, 0)", "setSymbol(?, 0, 0)", "clear(?)",
            "reverse(?)", "rotate(?, 0)", "holes(?)", "isPeriod(?, 1, true)", "smallestPeriod(?, true)", "longestBorder(?)",
            "isPrimitive(?)", "exponent(?)", "completionCount(?)", "complete(?, 0, 0)", "primitiveCompletions(?)",
            "complexity(?, 0)", "occurrences(0, ?)", "addPattern(?)", "avoids(?)", "avoidingCycle(?)", "fillDensities(0, ?)"};
        Play p = rich();
        TreeSet<String> tested = new TreeSet<>();
        for (String call : calls) {
            p.refuses(ARGUMENT, each(call, NO_REGISTER));
            tested.add(call.replaceAll("\\(.*", ""));
        }
        due("the methods with a register", tested, methodsWithRegister());
    }

    private static TreeSet<String> methodsWithRegister() {
        TreeSet<String> found = new TreeSet<>();
        try {
            Matcher m = Pattern.compile("(?m)^    public \\w+ (\\w+)\\([^)]*\\bint register\\b")
                .matcher(Files.readString(Path.of(System.getProperty("doc"))));
            while (m.find()) {
                found.add(m.group(1));
            }
        } catch (java.io.IOException e) {
            throw new IllegalStateException(e);
        }
        return found;
    }

    private static void describedOrder() {
        says("If several exceptions apply, the one that is documented first is thrown.");
        String full = many("_", 40);
        play(3, full).refuses(ARGUMENT, "append(0, 3)", "append(0, -2)", "append(4, 3)");
        play(2).text(many("a", 30)).refuses(ARGUMENT, "feed(32)", "feed(127)");
        play(2).text("a)").refuses(ARGUMENT, "parseWord(4)").text("2").refuses(ARGUMENT, "parseWord(-1)");
        play(2).text("(a9)9").refuses(ARGUMENT, "parseWord(4)");
        play(2, "ab").refuses(ARGUMENT, "symbol(4, 2)", "symbol(-1, -1)", "setSymbol(4, 2, 0)", "setSymbol(0, 2, 2)",
            "setSymbol(0, -1, -2)", "setSymbol(4, 9, 9)", "rotate(4, 3)", "rotate(-1, -1)");
        play(2, full).refuses(ARGUMENT, "concatenate(0, 4)", "concatenate(-1, 0)");
        play(2, "a", "b", "ab").refuses(ARGUMENT, "join(0, 1, 4)", "join(0, 2, -1)", "join(4, 1, 2)", "conflict(4, 2)");
        play(2, "").refuses(ARGUMENT, "isPeriod(4, 0, true)", "smallestPeriod(4, true)", "exponent(-1)");
        play(3, full, "a_").refuses(ARGUMENT, "complete(0, -1, 4)", "complete(1, 3, 4)", "complete(4, -1, 0)")
            .refuses(ARITHMETIC, "complete(0, -1, 1)", "complete(0, 9223372036854775807, 0)")
            .refuses(ARGUMENT, "primitiveCompletions(4)", "complexity(4, 7)");
        play(2, "ab", "").list("a", "a", "a", "a", "a", "a", "a", "a", "a", "a", "a", "b")
            .refuses(ARGUMENT, "addPattern(4)", "avoidingCycle(4)", "avoidingCycle(-1)");
        play(2, "ab").refuses(ARGUMENT, "newRow(2, 2, 42)", "newRow(0, 2, -1)", "fillDensities(0, 4)", "fillDensities(2, 0)",
            "takeRemainder(2, -1, -1)", "elementBits(-1, 9)")
            .refuses(STATE, "takeRemainder(0, -1, 50)", "elementBits(0, -1)", "elementBits(1, 41)");
        play(2, "ab").is("newRow(0, 1, 1) = 1").refuses(ARGUMENT, "fillDensities(0, 4)", "fillDensities(-1, 0)")
            .refuses(INDEX, "takeRemainder(0, 1, 0)", "takeRemainder(0, 0, 1)", "takeRemainder(0, -1, 0)")
            .refuses(ARITHMETIC, "takeRemainder(0, 0, 0)");
    }

    // ---- examples

    /** Takes the examples from the document itself: each is a title, a colon and calls. */
    private static void examples() {
        String text = SECTIONS.get("Description");
        int start = text.indexOf("Examples, each with a new object: calls and their results.");
        int end = text.indexOf("The constructor and the methods follow");
        String[] titles = {"Periods of a word with a hole:", "A hole that can be filled in two ways:",
            "Patterns that can be avoided:", "No word:", "A text with an error:"};
        says("Examples, each with a new object: calls and their results.");
        for (int i = 0; i < titles.length; i++) {
            int from = text.indexOf(titles[i], start);
            int to = i + 1 < titles.length ? text.indexOf(titles[i + 1], start) : end;
            due("the example " + titles[i] + " is there", from > start && to > from, true);
            String example = text.substring(from, to).trim();
            quote(example);
            play().is(example.substring(titles[i].length(), example.length() - 1));
        }
    }

    // ---- promises 1 to 14

    private static void wordMethods() {
        promise(1);
        says("Creates an object with two letters, empty registers, no patterns and missing rows.");
        play().is("length(0) = 0; length(1) = 0; length(2) = 0; length(3) = 0; patternCount() = 0; countAvoiding(1) = 2")
            .refuses(STATE, "elementBits(0, 0)", "elementBits(1, 0)", "takeRemainder(0, 0, 0)", "takeRemainder(1, 0, 0)",
                "fillDensities(0, 0)", "fillDensities(1, 0)", "restoreSnapshot()")
            .refuses(NO_ELEMENT, "errorPosition()").refuses(ARGUMENT, "append(0, 2)").is("append(0, 1) = 1")
            .is("feed(97) = 1; setLetters(2) = 2");
        rich();
        play().is("length(0) = 0; patternCount() = 0; parseWord(0) = 0; setLetters(2) = 2").refuses(STATE, "elementBits(0, 0)")
            .refuses(NO_ELEMENT, "errorPosition()").refuses(STATE, "restoreSnapshot()");

        promise(2);
        names("- `k`: the number of letters");
        says("Sets the number of letters.");
        play().is("setLetters(3) = 2; append(0, 2) = 1; countAvoiding(2) = 9").refuses(ARGUMENT, "append(0, 3)")
            .is("setLetters(1) = 3; append(0, 0) = 1; countAvoiding(2) = 1").refuses(ARGUMENT, "append(0, 1)")
            .is("setLetters(2) = 1; append(0, 1) = 1; countAvoiding(2) = 4").refuses(ARGUMENT, "append(0, 2)");
        says("All registers become empty, and all patterns are removed, even if the number is the same.");
        for (int k = 1; k <= 3; k++) {
            rich().is("setLetters(" + k + ") = 2; length(0) = 0; length(1) = 0; length(2) = 0; length(3) = 0")
                .is("patternCount() = 0; countAvoiding(5) = " + (long) Math.pow(k, 5)).refuses(INDEX, "removePattern(0)")
                .is("isUnavoidable() = false; append(3, 0) = 1; addPattern(3) = 0");
        }
        play(2, "a", "b").list("a", "b").is("setLetters(2) = 2").word(0, "ab").is("addPattern(0) = 0").word(0, "ba")
            .is("avoids(0) = true; countAvoiding(2) = 3");
        play(3, "ab").list("_____", "_____").is("setLetters(3) = 3").word(0, "ab").is("addPattern(0) = 0; countAvoiding(2) = 8")
            .word(0, "bb").is("addPattern(0) = 1; countAvoiding(2) = 7; avoids(0) = false").word(0, "aa").is("avoids(0) = true");
        says("Returns the previous number of letters.");
        play().is("setLetters(1) = 2; setLetters(1) = 1; setLetters(3) = 1; setLetters(3) = 3; setLetters(2) = 3")
            .refuses(ARGUMENT, "setLetters(4)").is("setLetters(1) = 2");
        says("Throws `IllegalArgumentException` if k is not from 1 to 3");
        rich().refuses(ARGUMENT, each("setLetters(?)", "0", "4", "-1", "-2", "5", "258", MIN, MAX)).is("setLetters(1) = 2")
            .is("setLetters(3) = 1");

        appending();
        reading();
        symbols();
        changing();
    }

    private static void appending() {
        promise(3);
        names("- `register`: the register");
        says("Appends a symbol to a word.");
        play().is("append(2, 0) = 1; append(2, 1) = 2; append(2, 0) = 3; append(0, 1) = 1").holds(2, "aba").holds(0, "b")
            .holds(1, "").holds(3, "");
        says("- `symbol`: a letter or -1 for a hole");
        play(3).is("append(0, 2) = 1; append(0, -1) = 2; append(0, 0) = 3; append(0, 1) = 4").holds(0, "c_ab");
        says("Returns the new length.");
        Play p = play();
        for (int n = 1; n <= 40; n++) {
            p.is("append(3, " + (n % 3 - 1) + ") = " + n);
        }
        p.is("length(3) = 40");
        says("Throws `IllegalArgumentException` if there is no such register or symbol");
        rich().refuses(ARGUMENT, each("append(?, 0)", NO_REGISTER)).refuses(ARGUMENT, each("append(0, ?)", NO_SYMBOL));
        play(1).refuses(ARGUMENT, "append(0, 1)", "append(0, -2)").is("append(0, 0) = 1; append(0, -1) = 2");
        play(3).refuses(ARGUMENT, "append(0, 3)", "append(0, -2)").is("append(0, 2) = 1; append(0, -1) = 2");
        says("Throws `IllegalStateException` if the word has 40 symbols");
        play(2, many("a", 39)).is("append(0, 1) = 40").refuses(STATE, "append(0, 0)", "append(0, 1)", "append(0, -1)")
            .holds(0, many("a", 39) + "b").is("append(1, 0) = 1");
    }

    private static void reading() {
        promise(4);
        says("Appends a character to the input, which is empty at first.");
        play().is("parseWord(0) = 0; feed(98) = 1; feed(97) = 2; parseWord(0) = 2").holds(0, "ba");
        says("- `character`: the character code");
        play(3).is("feed(97) = 1; feed(40) = 2; feed(98) = 3; feed(95) = 4; feed(41) = 5; feed(50) = 6; feed(99) = 7")
            .is("parseWord(0) = 6").holds(0, "ab_b_c");
        says("Returns the length of the input.");
        Play p = play();
        for (int n = 1; n <= 30; n++) {
            p.is("feed(" + (32 + n) + ") = " + n);
        }
        p.parseRefused(0).is("feed(126) = 1");
        says("Throws `IllegalArgumentException` if character is not from 33 to 126");
        rich().refuses(ARGUMENT, each("feed(?)", "32", "127", "0", "-1", "353", "65633", "-97", MIN, MAX))
            .is("feed(33) = 5; feed(126) = 6");
        says("Throws `IllegalStateException` if the input has 30 characters");
        play().text(many("a", 29)).is("feed(98) = 30").refuses(STATE, "feed(97)", "feed(33)", "feed(126)")
            .is("parseWord(0) = 30; feed(97) = 1");

        promise(5);
        names("- `register`: the register");
        says("Reads the input as a word and puts it into a register.");
        play(2, "aa", "bb").text("ab_").is("parseWord(1) = 3").holds(1, "ab_").holds(0, "aa").is("parseWord(0) = 0")
            .holds(0, "").text("(_9)4_4").is("parseWord(3) = 40").holds(3, many("_", 40));
        says("The input is empty afterwards, except after an IllegalArgumentException.");
        play().text("ab").is("parseWord(0) = 2; parseWord(0) = 0; feed(97) = 1");
        play().text("ab?").parseRefused(0);
        play().text("(((").parseRefused(0);
        play().text("(a9)9").parseRefused(0);
        play().text("ab").refuses(ARGUMENT, "parseWord(4)", "parseWord(-1)").is("feed(95) = 3; parseWord(0) = 3")
            .holds(0, "ab_");
        play().text("a?").refuses(ARGUMENT, "parseWord(4)").refuses(NO_ELEMENT, "errorPosition()").parseRefused(0);
        says("Returns the length of the word.");
        play().is("parseWord(0) = 0").text("a").is("parseWord(0) = 1").text("(ab_)9b2").is("parseWord(0) = 29")
            .text("(a9)4b4").is("parseWord(0) = 40").text(many("_", 30)).is("parseWord(0) = 30");
        says("Throws `IllegalArgumentException` if there is no such register");
        rich().refuses(ARGUMENT, each("parseWord(?)", NO_REGISTER));
        says("Throws `IllegalStateException` if the text is not valid, or if it is valid and the word would have more than "
            + "40 symbols");
        for (String text : new String[] {"?", "(", "a)", "c", "(a5)8b", "(a9)4a5", "(a9)9", "((((a9)9)9)9)9", "a9a9a9a9a9",
            "((((a9)9)9)9)9?", "(a9a9a9a9a9"}) {
            play(2, "ab_a", "b").text(text).parseRefused(0);
            rich().is("parseWord(2) = 4").text(text).parseRefused(1);
        }
        play().text("(a5)8").is("parseWord(0) = 40").text("(a9)4a4").is("parseWord(0) = 40").text("((((a2)2)2)5)")
            .is("parseWord(0) = 40").text("(a9)9").parseRefused(0).text("((a)2b)2").is("parseWord(0) = 6").holds(0, "aabaab");

        promise(6);
        says("Returns the error position of the latest text that was not valid.");
        play().text("ab?").parseRefused(0).is("errorPosition() = 2").text("(").parseRefused(0).is("errorPosition() = 1")
            .text(many("a", 29) + "?").parseRefused(0).is("errorPosition() = 29").text("?").parseRefused(0)
            .is("errorPosition() = 0");
        says("It stays until another one is not valid.");
        // A text that is only too long is valid.
        play(2, "ab").text("ab?").parseRefused(0).text("ab").is("parseWord(0) = 2; errorPosition() = 2; parseWord(0) = 0")
            .is("errorPosition() = 2").text("(a9)9").parseRefused(0).is("errorPosition() = 2; saveSnapshot() = 0")
            .text("?").refuses(ARGUMENT, "parseWord(4)").is("errorPosition() = 2; setLetters(3) = 2; restoreSnapshot() = 0")
            .is("errorPosition() = 2").parseRefused(0).is("errorPosition() = 0");
        says("Returns the position.");
        play().text(many("a", 29) + "(").parseRefused(0).is("errorPosition() = 30; errorPosition() = 30");
        says("Throws `NoSuchElementException` if no text was invalid so far");
        play().refuses(NO_ELEMENT, "errorPosition()").text("a").is("parseWord(0) = 1; parseWord(0) = 0").text("(a9)9")
            .parseRefused(0).text("?").refuses(NO_ELEMENT, "errorPosition()").refuses(ARGUMENT, "parseWord(4)")
            .refuses(NO_ELEMENT, "errorPosition()").parseRefused(0).is("errorPosition() = 0");
    }

    private static void symbols() {
        promise(7);
        names("- `register`: the register");
        says("Returns the length of a word.");
        play(2, "", "a", "_b_", many("a", 40)).is("length(0) = 0; length(1) = 1; length(2) = 3; length(3) = 40");
        says("Returns the number of symbols.");
        play(2, "__").is("length(0) = 2; append(0, 0) = 3; length(0) = 3; clear(0) = 3; length(0) = 0");
        says("Throws `IllegalArgumentException` if there is no such register");
        rich().refuses(ARGUMENT, each("length(?)", NO_REGISTER));

        promise(8);
        names("- `register`: the register");
        names("- `i`: the position");
        says("Returns a symbol of a word.");
        play(3, "ab", "cab").is("symbol(0, 0) = 0; symbol(0, 1) = 1; symbol(1, 0) = 2; symbol(1, 2) = 1");
        says("Returns the letter, or -1 for a hole.");
        play(3, "_c", many("_", 39) + "b").is("symbol(0, 0) = -1; symbol(0, 1) = 2; symbol(1, 38) = -1; symbol(1, 39) = 1");
        says("Throws `IllegalArgumentException` if there is no such register");
        rich().refuses(ARGUMENT, each("symbol(?, 0)", NO_REGISTER));
        says("Throws `IndexOutOfBoundsException` if there is no such position");
        play(2, "ab", "", many("a", 40)).refuses(INDEX, each("symbol(0, ?)", "2", "-1", "39", "40", MIN, MAX))
            .refuses(INDEX, "symbol(1, 0)", "symbol(1, -1)", "symbol(2, 40)", "symbol(2, -1)", "symbol(3, 0)")
            .is("clear(0) = 2").refuses(INDEX, "symbol(0, 0)", "symbol(0, 1)");

        promise(9);
        names("- `register`: the register");
        names("- `i`: the position");
        says("Replaces a symbol of a word.");
        play(2, "aaa", "aaa").is("setSymbol(0, 1, 1) = 0").holds(0, "aba").holds(1, "aaa").is("setSymbol(0, 0, 1) = 0")
            .is("setSymbol(0, 2, 1) = 0").holds(0, "bbb").word(2, many("a", 40)).is("setSymbol(2, 39, 1) = 0")
            .holds(2, many("a", 39) + "b");
        says("- `symbol`: a letter or -1 for a hole");
        play(3, "aa").is("setSymbol(0, 0, -1) = 0; setSymbol(0, 1, 2) = 0").holds(0, "_c");
        says("Returns the previous symbol.");
        play(2, "a_b").is("setSymbol(0, 0, 0) = 0; setSymbol(0, 0, 1) = 0; setSymbol(0, 0, -1) = 1; setSymbol(0, 0, 0) = -1")
            .is("setSymbol(0, 1, 0) = -1; setSymbol(0, 2, 0) = 1");
        says("Throws `IllegalArgumentException` if there is no such register or symbol");
        rich().refuses(ARGUMENT, each("setSymbol(?, 0, 0)", NO_REGISTER)).refuses(ARGUMENT, each("setSymbol(0, 0, ?)",
            NO_SYMBOL));
        play(3, "a").refuses(ARGUMENT, "setSymbol(0, 0, 3)").is("setSymbol(0, 0, 2) = 0");
        play(1, "a").refuses(ARGUMENT, "setSymbol(0, 0, 1)").is("setSymbol(0, 0, -1) = 0");
        says("Throws `IndexOutOfBoundsException` if there is no such position");
        play(2, "ab", "", many("a", 40)).refuses(INDEX, each("setSymbol(0, ?, 0)", "2", "-1", "39", "40", MIN, MAX))
            .refuses(INDEX, "setSymbol(1, 0, 0)", "setSymbol(1, -1, -1)", "setSymbol(2, 40, 1)");
    }

    private static void changing() {
        promise(10);
        names("- `register`: the register");
        says("Makes a register empty.");
        play(2, "a_b", "b").is("clear(0) = 3; length(0) = 0; length(1) = 1").refuses(INDEX, "symbol(0, 0)")
            .is("append(0, 1) = 1").holds(0, "b");
        says("Returns the length that its word had.");
        play(2, many("_", 40), "a").is("clear(0) = 40; clear(0) = 0; clear(1) = 1; clear(2) = 0");
        says("Throws `IllegalArgumentException` if there is no such register");
        rich().refuses(ARGUMENT, each("clear(?)", NO_REGISTER));

        promise(11);
        names("- `to`: the register that is changed");
        says("Appends the word of a register to the word of a register.");
        play(3, "ab", "c_", "").is("concatenate(0, 1) = 4").holds(0, "abc_").holds(1, "c_").is("concatenate(2, 1) = 2")
            .holds(2, "c_").is("concatenate(1, 3) = 2").holds(1, "c_").is("concatenate(3, 3) = 0");
        says("- `from`: the register whose word is appended; it may be the same");
        play(2, "ab_", many("a", 20)).is("concatenate(0, 0) = 6").holds(0, "ab_ab_").is("concatenate(1, 1) = 40")
            .holds(1, many("a", 40));
        says("Returns the new length.");
        play(2, "a", many("b", 39)).is("concatenate(1, 0) = 40; length(1) = 40; concatenate(1, 2) = 40; concatenate(2, 0) = 1");
        says("Throws `IllegalArgumentException` if one of both registers does not exist");
        rich().refuses(ARGUMENT, each("concatenate(?, 0)", NO_REGISTER)).refuses(ARGUMENT, each("concatenate(0, ?)",
            NO_REGISTER)).refuses(ARGUMENT, "concatenate(4, 4)");
        says("Throws `IllegalStateException` if the word would have more than 40 symbols");
        play(2, many("a", 21), many("b", 20), "a").refuses(STATE, "concatenate(0, 0)", "concatenate(0, 1)", "concatenate(1, 0)")
            .is("concatenate(1, 1) = 40").refuses(STATE, "concatenate(1, 2)", "concatenate(2, 1)", "concatenate(1, 1)");

        promise(12);
        names("- `register`: the register");
        says("Reverses a word.");
        play(3, "abc", "a_bb").is("reverse(0) = false").holds(0, "cba").is("reverse(1) = false").holds(1, "bb_a")
            .word(2, "a" + many("b", 39)).is("reverse(2) = false").holds(2, many("b", 39) + "a");
        says("Returns whether the word is the same as before.");
        play(2, "", "a", "ab_ba", "ab_bb").is("reverse(0) = true; reverse(1) = true; reverse(2) = true; reverse(3) = false")
            .word(0, "a_").is("reverse(0) = false").word(0, "__").is("reverse(0) = true").word(0, many("ab", 20))
            .is("reverse(0) = false").word(0, "baab").is("reverse(0) = true").word(0, "abaa").is("reverse(0) = false");
        says("Throws `IllegalArgumentException` if there is no such register");
        rich().refuses(ARGUMENT, each("reverse(?)", NO_REGISTER));

        promise(13);
        names("- `register`: the register");
        says("Moves the first symbols of a word to its end, in their order.");
        play(3, "abc_", "ab").is("rotate(0, 3) = false").holds(0, "_abc").is("rotate(0, 2) = false").holds(0, "bc_a")
            .is("rotate(1, 1) = false").holds(1, "ba");
        says("- `n`: the number of symbols that are moved");
        play(3, "abc", "a" + many("b", 39)).is("rotate(0, 0) = true").holds(0, "abc").is("rotate(0, 3) = true").holds(0, "abc")
            .is("rotate(0, 1) = false").holds(0, "bca").is("rotate(1, 39) = false").holds(1, "ba" + many("b", 38))
            .is("rotate(1, 40) = true; rotate(2, 0) = true");
        says("Returns whether the word is the same as before.");
        play(2, "abab", "a_", "__", "aab").is("rotate(0, 2) = true; rotate(0, 1) = false; rotate(1, 1) = false")
            .is("rotate(2, 1) = true; rotate(3, 1) = false; rotate(3, 0) = true; rotate(3, 3) = true");
        says("Throws `IllegalArgumentException` if there is no such register");
        rich().refuses(ARGUMENT, each("rotate(?, 0)", NO_REGISTER));
        says("Throws `IndexOutOfBoundsException` if n is negative or greater than the length of the word");
        play(2, "aab", "").refuses(INDEX, each("rotate(0, ?)", "-1", "4", "6", "-3", MIN, MAX))
            .refuses(INDEX, "rotate(1, 1)", "rotate(1, -1)").is("rotate(0, 3) = true");

        promise(14);
        names("- `register`: the register");
        says("Returns the number of holes of a word.");
        play(2, "a__b_", "ab", "", "_").is("holes(0) = 3; holes(1) = 0; holes(2) = 0; holes(3) = 1");
        says("Returns the number of holes.");
        play(2, many("_", 40), many("a", 40)).is("holes(0) = 40; holes(1) = 0; setSymbol(1, 39, -1) = 0; holes(1) = 1")
            .is("setSymbol(0, 0, 0) = -1; holes(0) = 39; clear(0) = 40; holes(0) = 0");
        says("Throws `IllegalArgumentException` if there is no such register");
        rich().refuses(ARGUMENT, each("holes(?)", NO_REGISTER));
    }

    // ---- promises 15 to 18

    private static void relationMethods() {
        promise(15);
        names("- `a`: a register");
        names("- `b`: a register");
        says("Returns whether two words are compatible.");
        play(3, "a_", "_b", "c_").is("isCompatible(0, 1) = true; isCompatible(0, 2) = false; isCompatible(1, 2) = true");
        says("Returns true if they are.");
        play(2, "", "a", "_", "aa").is("isCompatible(0, 0) = true; isCompatible(0, 1) = false; isCompatible(1, 0) = false")
            .is("isCompatible(1, 2) = true; isCompatible(2, 1) = true; isCompatible(1, 3) = false; isCompatible(3, 1) = false")
            .word(0, many("_", 39) + "a").word(1, many("_", 39) + "b").is("isCompatible(0, 1) = false");
        says("Throws `IllegalArgumentException` if one of both registers does not exist");
        rich().refuses(ARGUMENT, each("isCompatible(?, 0)", NO_REGISTER)).refuses(ARGUMENT, each("isCompatible(0, ?)",
            NO_REGISTER)).refuses(ARGUMENT, "isCompatible(4, 4)");

        promise(16);
        names("- `a`: the first register");
        names("- `b`: the second register");
        says("Returns whether the word of the first register is contained in that of the second one.");
        play(2, "_b", "ab").is("isContained(0, 1) = true; isContained(1, 0) = false; isContained(0, 0) = true");
        says("Returns true if it is.");
        play(2, "", "a", "_", "ab").is("isContained(0, 0) = true; isContained(0, 1) = false; isContained(1, 0) = false")
            .is("isContained(2, 1) = true; isContained(1, 2) = false; isContained(1, 3) = false; isContained(3, 1) = false")
            .word(0, many("_", 39) + "a").word(1, many("_", 39) + "b").is("isContained(0, 1) = false");
        says("Throws `IllegalArgumentException` if one of both registers does not exist");
        rich().refuses(ARGUMENT, each("isContained(?, 0)", NO_REGISTER)).refuses(ARGUMENT, each("isContained(0, ?)",
            NO_REGISTER)).refuses(ARGUMENT, "isContained(4, 4)");

        promise(17);
        names("- `a`: a register");
        names("- `b`: a register");
        says("Returns the first position at which two words of the same length have letters that differ.");
        play(2, "aab", "abb", "b_a", "_ba").is("conflict(0, 1) = 1; conflict(1, 0) = 1; conflict(0, 2) = 0; conflict(1, 2) = 0")
            .is("conflict(0, 3) = 1; conflict(1, 3) = 2");
        says("Returns the position, or -1 if there is none.");
        play(2, "a_", "_b", many("_", 39) + "a", many("_", 39) + "b").is("conflict(0, 1) = -1; conflict(0, 0) = -1")
            .is("conflict(2, 3) = 39; clear(0) = 2; clear(1) = 2; conflict(0, 1) = -1");
        says("Throws `IllegalArgumentException` if one of both registers does not exist");
        rich().refuses(ARGUMENT, each("conflict(?, 0)", NO_REGISTER)).refuses(ARGUMENT, each("conflict(0, ?)", NO_REGISTER))
            .refuses(ARGUMENT, "conflict(4, 4)");
        says("Throws `IllegalStateException` if the words have different lengths");
        play(2, "", "a", "b_", many("a", 40)).refuses(STATE, "conflict(0, 1)", "conflict(1, 0)", "conflict(1, 2)",
            "conflict(2, 1)", "conflict(0, 3)", "conflict(3, 2)");

        promise(18);
        names("- `a`: a register");
        names("- `b`: a register");
        says("Puts the join of two words into a register.");
        play(2, "a__", "_b_", "bbbb").is("join(0, 1, 2) = 1").holds(2, "ab_").holds(0, "a__").holds(1, "_b_");
        says("- `to`: the register that is set; it may be one of the others");
        play(2, "a__", "_b_").is("join(0, 1, 0) = 1").holds(0, "ab_").holds(1, "_b_");
        play(2, "a__", "_b_").is("join(0, 1, 1) = 1").holds(0, "a__").holds(1, "ab_").is("join(1, 1, 1) = 1").holds(1, "ab_");
        says("Returns the number of holes of the join.");
        play(2, "a___", "_b__", "", many("_", 40)).is("join(0, 1, 1) = 2; join(0, 0, 0) = 3; join(3, 3, 0) = 40")
            .is("join(2, 2, 0) = 0; length(0) = 0").word(0, "a_").word(1, "_b").is("join(0, 1, 2) = 0");
        says("Throws `IllegalArgumentException` if one of the three registers does not exist");
        rich().refuses(ARGUMENT, each("join(?, 0, 1)", NO_REGISTER)).refuses(ARGUMENT, each("join(0, ?, 1)", NO_REGISTER))
            .refuses(ARGUMENT, each("join(0, 0, ?)", NO_REGISTER));
        says("Throws `IllegalStateException` if the words are not compatible");
        play(2, "a_", "b_", "a", "").refuses(STATE, "join(0, 1, 2)", "join(0, 1, 0)", "join(1, 0, 0)", "join(0, 2, 3)",
            "join(2, 0, 0)", "join(3, 2, 1)", "join(2, 3, 2)");
    }

    // ---- promises 19 to 24

    private static void periodMethods() {
        promise(19);
        names("- `register`: the register");
        names("- `p`: the number");
        says("Returns whether a number is a period of a word.");
        play(2, "ab_ab").is("isPeriod(0, 3, true) = true; isPeriod(0, 3, false) = true; isPeriod(0, 2, true) = false")
            .is("isPeriod(0, 2, false) = false; isPeriod(0, 1, true) = false; isPeriod(0, 4, true) = false");
        says("- `isWeak`: whether a weak period is meant, otherwise a strong one");
        play(2, "a_b", "ab__bb").is("isPeriod(0, 1, true) = true; isPeriod(0, 1, false) = false")
            .is("isPeriod(1, 2, true) = true; isPeriod(1, 2, false) = false; isPeriod(1, 3, true) = true");
        says("Returns true if p is such a period.");
        play(2, "a", "_", many("_", 39) + "a", "a" + many("_", 38) + "b").is("isPeriod(0, 1, true) = true")
            .is("isPeriod(1, 1, false) = true; isPeriod(2, 1, false) = true; isPeriod(3, 39, true) = false")
            .is("isPeriod(3, 39, false) = false; isPeriod(3, 13, true) = true; isPeriod(3, 13, false) = false")
            .is("isPeriod(3, 38, false) = true");
        says("Throws `IllegalArgumentException` if there is no such register, or p is not from 1 to the length of the word");
        rich().refuses(ARGUMENT, each("isPeriod(?, 1, true)", NO_REGISTER)).refuses(ARGUMENT, each("isPeriod(?, 1, false)",
            NO_REGISTER));
        play(2, "aaa", "").refuses(ARGUMENT, each("isPeriod(0, ?, true)", "0", "4", "-1", "40", MIN, MAX))
            .refuses(ARGUMENT, each("isPeriod(0, ?, false)", "0", "4", "-1", "40", MIN, MAX))
            .refuses(ARGUMENT, each("isPeriod(1, ?, true)", "0", "1", "-1")).is("isPeriod(0, 1, true) = true")
            .is("isPeriod(0, 3, true) = true; isPeriod(0, 3, false) = true");

        promise(20);
        names("- `register`: the register");
        says("Returns the smallest period of a word.");
        play(2, "abab", "aab", "aabaa", "aaaa").is("smallestPeriod(0, true) = 2; smallestPeriod(1, true) = 3")
            .is("smallestPeriod(2, true) = 3; smallestPeriod(2, false) = 3; smallestPeriod(3, false) = 1");
        says("- `isWeak`: whether weak periods are meant, otherwise strong ones");
        play(2, "a_b", "a__b").is("smallestPeriod(0, true) = 1; smallestPeriod(0, false) = 3; smallestPeriod(1, true) = 1")
            .is("smallestPeriod(1, false) = 2");
        says("Returns the period.");
        play(2, "a", "_", many("a", 39) + "b", many("_", 40)).is("smallestPeriod(0, true) = 1; smallestPeriod(1, false) = 1")
            .is("smallestPeriod(2, true) = 40; smallestPeriod(2, false) = 40; smallestPeriod(3, true) = 1");
        says("Throws `IllegalArgumentException` if there is no such register");
        rich().refuses(ARGUMENT, each("smallestPeriod(?, true)", NO_REGISTER)).refuses(ARGUMENT,
            each("smallestPeriod(?, false)", NO_REGISTER));
        says("Throws `NoSuchElementException` if the word is empty");
        play().refuses(NO_ELEMENT, "smallestPeriod(0, true)", "smallestPeriod(3, false)").is("append(0, -1) = 1")
            .is("smallestPeriod(0, true) = 1; clear(0) = 1").refuses(NO_ELEMENT, "smallestPeriod(0, false)");

        promise(21);
        says("Returns the length from which on every word with one or no hole and with the weak periods p and q has the "
            + "strong period gcd(p, q): p + q - gcd(p, q) without a hole, and p + q with one hole.");
        play().is("periodBound(6, 4, 0) = 8; periodBound(4, 6, 0) = 8; periodBound(6, 4, 1) = 10; periodBound(4, 6, 1) = 10")
            .is("periodBound(3, 7, 0) = 9; periodBound(12, 18, 0) = 24; periodBound(5, 5, 0) = 5; periodBound(5, 5, 1) = 10")
            .is("periodBound(5, 10, 0) = 10; periodBound(10, 5, 0) = 10; periodBound(360, 840, 0) = 1080");
        says("- `p`: a number from 1 to 1000");
        play().is("periodBound(1, 2, 0) = 2; periodBound(1000, 2, 0) = 1000; periodBound(1000, 3, 1) = 1003")
            .refuses(ARGUMENT, each("periodBound(?, 4, 1)", "0", "1001", "-1", MIN, MAX));
        says("- `q`: a number from 1 to 1000");
        play().is("periodBound(2, 1, 0) = 2; periodBound(2, 1000, 0) = 1000; periodBound(3, 1000, 1) = 1003")
            .refuses(ARGUMENT, each("periodBound(4, ?, 0)", "0", "1001", "-1", MIN, MAX));
        says("- `holes`: the number of holes, 0 or 1");
        play().is("periodBound(2, 2, 0) = 2; periodBound(2, 2, 1) = 4").refuses(ARGUMENT, each("periodBound(2, 2, ?)", "-1", "2",
            MIN, MAX));
        says("Returns the length.");
        play().is("periodBound(1, 1, 0) = 1; periodBound(1, 1, 1) = 2; periodBound(1000, 1000, 0) = 1000")
            .is("periodBound(1000, 1000, 1) = 2000; periodBound(999, 1000, 0) = 1998; periodBound(997, 991, 0) = 1987");
        says("Throws `IllegalArgumentException` if an argument is out of range");
        rich().refuses(ARGUMENT, "periodBound(0, 1, 0)", "periodBound(1, 0, 0)", "periodBound(1001, 1, 0)",
            "periodBound(1, 1001, 0)", "periodBound(1, 1, 2)", "periodBound(1, 1, -1)", "periodBound(0, 0, 1)",
            "periodBound(2147483647, 2147483647, 0)", "periodBound(-2147483648, -2147483648, 1)");

        promise(22);
        names("- `register`: the register");
        says("Returns the longest border of a word.");
        play(2, "abab", "aba", "aaaa", "ab_ab").is("longestBorder(0) = 2; longestBorder(1) = 1; longestBorder(2) = 3")
            .is("longestBorder(3) = 2");
        says("Returns the length of the longest border, or 0 if there is none.");
        play(2, "", "a", "ab", "_").is("longestBorder(0) = 0; longestBorder(1) = 0; longestBorder(2) = 0; longestBorder(3) = 0")
            .word(0, many("_", 40)).is("longestBorder(0) = 39").word(0, many("a", 39) + "b").is("longestBorder(0) = 0")
            .word(0, "a" + many("b", 38) + "a").is("longestBorder(0) = 1").word(0, "a_b").is("longestBorder(0) = 2");
        says("Throws `IllegalArgumentException` if there is no such register");
        rich().refuses(ARGUMENT, each("longestBorder(?)", NO_REGISTER));

        promise(23);
        names("- `register`: the register");
        says("Returns whether a word is primitive.");
        play(2, "aab", "abab", "ab_b", "a_b").is("isPrimitive(0) = true; isPrimitive(1) = false; isPrimitive(2) = false")
            .is("isPrimitive(3) = true");
        says("Returns true if it is.");
        play(2, "", "_", "__", many("ab", 20)).is("isPrimitive(0) = false; isPrimitive(1) = true; isPrimitive(2) = false")
            .is("isPrimitive(3) = false; setSymbol(3, 39, 0) = 1; isPrimitive(3) = true");
        says("Throws `IllegalArgumentException` if there is no such register");
        rich().refuses(ARGUMENT, each("isPrimitive(?)", NO_REGISTER));

        promise(24);
        names("- `register`: the register");
        says("Returns the exponent of a word.");
        play(2, "ababab", "aab", "a__b", "aabaabaa").is("exponent(0) = 3; exponent(1) = 1; exponent(2) = 2; exponent(3) = 1");
        says("Returns the exponent.");
        play(2, "a", "aa", many("_", 40), many("ab", 19) + "aa").is("exponent(0) = 1; exponent(1) = 2; exponent(2) = 40")
            .is("exponent(3) = 1").word(0, many("a", 19) + "b" + many("a", 19) + "b").is("exponent(0) = 2");
        says("Throws `IllegalArgumentException` if there is no such register");
        rich().refuses(ARGUMENT, each("exponent(?)", NO_REGISTER));
        says("Throws `NoSuchElementException` if the word is empty");
        play().refuses(NO_ELEMENT, "exponent(0)", "exponent(3)").is("append(0, 0) = 1; exponent(0) = 1; clear(0) = 1")
            .refuses(NO_ELEMENT, "exponent(0)");
    }

    // ---- promises 25 to 29

    private static void completionMethods() {
        promise(25);
        names("- `register`: the register");
        says("Returns the number of completions of a word.");
        play(3, "a_b_", "ab", "", "_").is("completionCount(0) = 9; completionCount(1) = 1; completionCount(2) = 1")
            .is("completionCount(3) = 3");
        play(2, many("_", 40), many("_", 31), many("_", 32)).is("completionCount(0) = 1099511627776")
            .is("completionCount(1) = 2147483648; completionCount(2) = 4294967296");
        play(1, many("_", 40)).is("completionCount(0) = 1");
        says("Returns the number of completions.");
        play(3, many("_", 39), many("_", 20), many("_", 39) + "a").is("completionCount(0) = 4052555153018976267")
            .is("completionCount(1) = 3486784401; completionCount(2) = 4052555153018976267");
        says("Throws `IllegalArgumentException` if there is no such register");
        rich().refuses(ARGUMENT, each("completionCount(?)", NO_REGISTER));
        says("Throws `ArithmeticException` if the number does not fit into a long");
        play(3, many("_", 40), many("_", 39) + "a").refuses(ARITHMETIC, "completionCount(0)")
            .is("completionCount(1) = 4052555153018976267; setSymbol(0, 20, 2) = -1; completionCount(0) = 4052555153018976267");

        promise(26);
        names("- `register`: the register of the word");
        says("Puts a completion of a word into a register.");
        play(3, "_b_", "aaaaa").is("complete(0, 5, 1) = 3").holds(1, "bbc").holds(0, "_b_");
        says("- `number`: the number of the completion");
        play(2, "_a_", many("_", 40)).is("complete(0, 0, 2) = 3").holds(2, "aaa").is("complete(0, 1, 2) = 3").holds(2, "aab")
            .is("complete(0, 2, 2) = 3").holds(2, "baa").is("complete(0, 3, 2) = 3").holds(2, "bab")
            .is("complete(1, 1099511627775, 2) = 40").holds(2, many("b", 40)).is("complete(1, 4294967296, 2) = 40")
            .holds(2, many("a", 7) + "b" + many("a", 32)).is("complete(1, 2147483648, 2) = 40")
            .holds(2, many("a", 8) + "b" + many("a", 31)).is("complete(1, 0, 2) = 40").holds(2, many("a", 40));
        says("- `to`: the register that is set; it may be the same");
        play(3, "_b_").is("complete(0, 6, 0) = 3").holds(0, "cba").is("complete(0, 0, 0) = 3").holds(0, "cba");
        says("Returns the length of the word.");
        play(1, many("_", 40), "", "a_").is("complete(0, 0, 3) = 40").holds(3, many("a", 40))
            .is("complete(1, 0, 3) = 0; length(3) = 0; complete(2, 0, 2) = 2").holds(2, "aa");
        says("Throws `IllegalArgumentException` if one of both registers does not exist");
        rich().refuses(ARGUMENT, each("complete(?, 0, 0)", NO_REGISTER)).refuses(ARGUMENT, each("complete(0, 0, ?)",
            NO_REGISTER)).refuses(ARGUMENT, "complete(4, 0, 4)");
        says("Throws `ArithmeticException` if the number of completions does not fit into a long");
        play(3, many("_", 40), "a").refuses(ARITHMETIC, "complete(0, 0, 1)", "complete(0, 0, 0)", "complete(0, -1, 1)",
            "complete(0, 9223372036854775807, 1)").is("setSymbol(0, 0, 1) = -1; complete(0, 4052555153018976266, 1) = 40")
            .holds(1, "b" + many("c", 39));
        says("Throws `NoSuchElementException` if there is no such completion");
        play(2, "_a_", "ab", "", many("_", 40)).refuses(NO_ELEMENT, each("complete(0, ?, 1)", "-1", "4", "4294967296",
            "-9223372036854775808", "9223372036854775807")).refuses(NO_ELEMENT, "complete(1, 1, 0)", "complete(1, -1, 0)",
            "complete(2, 1, 0)", "complete(2, -1, 0)", "complete(3, 1099511627776, 0)").is("complete(1, 0, 0) = 2");
        play(1, "__").refuses(NO_ELEMENT, "complete(0, 1, 0)").is("complete(0, 0, 0) = 2");

        promise(27);
        names("- `register`: the register");
        says("Returns how many completions of a word are primitive.");
        play(2, "____", "a_a_", "a_", "abab").is("primitiveCompletions(0) = 12; primitiveCompletions(1) = 2")
            .is("primitiveCompletions(2) = 1; primitiveCompletions(3) = 0");
        play(2, "ab__ab", "______", "a__a__", many("a", 40)).is("primitiveCompletions(0) = 3; primitiveCompletions(1) = 54")
            .is("primitiveCompletions(2) = 12; primitiveCompletions(3) = 0").word(0, many("a", 39) + "_")
            .is("primitiveCompletions(0) = 1").word(0, "ab").is("primitiveCompletions(0) = 1").word(0, "")
            .is("primitiveCompletions(0) = 0");
        // Only strong periods count: 1 is a weak one of a_b.
        play(2, "a_b", "a__b", "a_b_").is("primitiveCompletions(0) = 2; primitiveCompletions(1) = 3")
            .is("primitiveCompletions(2) = 4");
        says("Returns the number of primitive completions.");
        play(3, "_______", "_", "", "______").is("primitiveCompletions(0) = 2184; primitiveCompletions(1) = 3")
            .is("primitiveCompletions(2) = 0; primitiveCompletions(3) = 696");
        play(1, "_", "__", "_______").is("primitiveCompletions(0) = 1; primitiveCompletions(1) = 0")
            .is("primitiveCompletions(2) = 0");
        says("Throws `IllegalArgumentException` if there is no such register");
        rich().refuses(ARGUMENT, each("primitiveCompletions(?)", NO_REGISTER));
        says("Throws `IllegalStateException` if the word has more than 7 holes");
        play(2, many("_", 8), many("a_", 8), many("_", 40), "_______" + many("a", 33)).refuses(STATE,
            "primitiveCompletions(0)", "primitiveCompletions(1)", "primitiveCompletions(2)")
            .is("primitiveCompletions(3) = 127; setSymbol(0, 7, 0) = -1; primitiveCompletions(0) = 120");
        play(1, many("_", 8)).refuses(STATE, "primitiveCompletions(0)");

        promise(28);
        names("- `register`: the register");
        names("- `n`: the length");
        says("Returns the subword complexity of a word: the number of different full words of a length that are compatible "
            + "with some factor of the word.");
        play(2, "a_bb", "abab", "aaaa", "__").is("complexity(0, 1) = 2; complexity(0, 2) = 3; complexity(0, 3) = 3")
            .is("complexity(0, 4) = 2; complexity(1, 2) = 2; complexity(1, 3) = 2; complexity(2, 2) = 1")
            .is("complexity(3, 1) = 2; complexity(3, 2) = 4");
        play(3, "ac", "_", "").is("complexity(0, 1) = 2; complexity(1, 1) = 3; complexity(0, 2) = 1; complexity(2, 1) = 0");
        says("Returns the number of full words.");
        play(3, many("_", 40), "abcabc", "", many("abc", 13) + "a").is("complexity(0, 6) = 729; complexity(0, 0) = 1")
            .is("complexity(0, 1) = 3; complexity(1, 6) = 1; complexity(1, 5) = 2; complexity(2, 0) = 1; complexity(3, 6) = 3")
            .is("setSymbol(3, 39, 1) = 0; complexity(3, 6) = 4; complexity(3, 1) = 3; complexity(3, 0) = 1")
            .word(1, "abcab").is("complexity(1, 6) = 0; complexity(1, 5) = 1");
        play(1, "_____").is("complexity(0, 5) = 1; complexity(0, 6) = 0; complexity(0, 0) = 1");
        says("Throws `IllegalArgumentException` if there is no such register, or n is not from 0 to 6");
        rich().refuses(ARGUMENT, each("complexity(?, 1)", NO_REGISTER)).refuses(ARGUMENT, each("complexity(0, ?)", "-1", "7",
            "40", MIN, MAX)).refuses(ARGUMENT, "complexity(2, 7)", "complexity(2, -1)").is("complexity(0, 0) = 1")
            .is("complexity(0, 6) = 0");

        promise(29);
        says("Returns at how many positions of a word a factor begins that is compatible with the word of another register.");
        play(2, "aba_b", "a_", "ab", "b").is("occurrences(1, 0) = 3; occurrences(2, 0) = 3; occurrences(3, 0) = 3")
            .is("occurrences(0, 0) = 1; occurrences(0, 1) = 0; occurrences(3, 3) = 1; occurrences(1, 2) = 1");
        says("- `pattern`: the register of the word that is looked for; the empty word occurs at every position and at the "
            + "end");
        play(2, "", "a", "ab_", many("a", 40)).is("occurrences(0, 0) = 1; occurrences(0, 1) = 2; occurrences(0, 2) = 4")
            .is("occurrences(0, 3) = 41");
        says("- `register`: the register of the word in which it is looked for");
        play(2, "", "a", "aa_a").is("occurrences(1, 0) = 0; occurrences(1, 2) = 4; occurrences(2, 1) = 0");
        says("Returns the number of positions.");
        play(2, many("a", 40), "_", "aa", "b").is("occurrences(1, 0) = 40; occurrences(2, 0) = 39; occurrences(3, 0) = 0")
            .is("occurrences(0, 0) = 1; occurrences(0, 1) = 0; setSymbol(0, 39, 1) = 0; occurrences(3, 0) = 1")
            .is("occurrences(2, 0) = 38; setSymbol(0, 0, 1) = 0; occurrences(3, 0) = 2");
        says("Throws `IllegalArgumentException` if one of both registers does not exist");
        rich().refuses(ARGUMENT, each("occurrences(?, 0)", NO_REGISTER)).refuses(ARGUMENT, each("occurrences(0, ?)",
            NO_REGISTER)).refuses(ARGUMENT, "occurrences(4, 4)");
    }

    // ---- promises 30 to 38

    private static void patternMethods() {
        promise(30);
        names("- `register`: the register");
        says("Adds the word of a register to the patterns.");
        play(2, "aa", "a_a").is("addPattern(0) = 0; addPattern(1) = 1; avoids(0) = false; countAvoiding(2) = 3")
            .is("countAvoiding(3) = 4; clear(0) = 2; append(0, 1) = 1; avoids(0) = true; countAvoiding(2) = 3").holds(1, "a_a");
        says("The list may have the same pattern several times.");
        play(2, "ab", "a").is("addPattern(0) = 0; addPattern(0) = 1; patternCount() = 2; removePattern(0) = 1")
            .is("avoids(0) = false; removePattern(0) = 0; avoids(0) = true");
        says("Returns the number of the pattern.");
        Play p = play(2, "a_b_a", "b");
        for (int i = 0; i < 12; i++) {
            p.is("addPattern(" + i % 2 + ") = " + i);
        }
        p.is("removePattern(3) = 11; addPattern(0) = 11");
        says("Throws `IllegalArgumentException` if there is no such register");
        rich().refuses(ARGUMENT, each("addPattern(?)", NO_REGISTER));
        says("Throws `IllegalStateException` if there are 12 patterns, or the word does not have 1 to 5 symbols");
        play(2, "ab", "", "ababab", "_____").refuses(STATE, "addPattern(1)", "addPattern(2)").is("addPattern(3) = 0")
            .list("a", "b", "a", "b", "a", "b", "a", "b", "a", "b").word(3, "b").is("addPattern(3) = 11")
            .refuses(STATE, "addPattern(0)", "addPattern(1)", "addPattern(2)", "addPattern(3)")
            .is("patternCount() = 12; removePattern(0) = 11; addPattern(0) = 11").refuses(STATE, "addPattern(0)");

        promise(31);
        names("- `i`: the number of the pattern");
        says("Removes a pattern.");
        play(2, "ab", "bbb").list("ab", "bb").is("removePattern(0) = 1; avoids(0) = true; avoids(1) = false")
            .is("removePattern(0) = 0; avoids(1) = true; countAvoiding(3) = 8");
        says("The numbers of all later patterns decrease by 1.");
        play(3, "aaaaa", "b_b", "c", "ab").list("aaaaa", "b_b", "c", "ab").words("aaaaa", "bcb", "c", "ab")
            .is("removePattern(2) = 3; avoids(2) = true; avoids(3) = false; avoids(1) = false; avoids(0) = false")
            .is("removePattern(2) = 2; avoids(3) = true; avoids(1) = false; removePattern(0) = 1; avoids(0) = true")
            .is("avoids(1) = false; removePattern(0) = 0; avoids(1) = true");
        p = play(2, "aaaaa", "bbbbb").list("aaaaa", "bbbbb", "aaaaa", "aaaaa", "aaaaa", "aaaaa", "aaaaa", "aaaaa", "aaaaa",
            "aaaaa", "aaaaa", "aaaaa");
        p.is("removePattern(0) = 11; avoids(1) = false; removePattern(0) = 10; avoids(1) = true; avoids(0) = false");
        says("Returns the number of patterns that remain.");
        p = play(2).list("a", "a", "a", "a", "a", "a", "a", "a", "a", "a", "a", "b").word(0, "b").word(1, "a");
        p.is("avoids(0) = false; removePattern(11) = 11; avoids(0) = true");
        for (int i = 10; i >= 0; i--) {
            p.is("avoids(1) = false; removePattern(" + i / 2 + ") = " + i);
        }
        p.is("avoids(1) = true; patternCount() = 0");
        says("Throws `IndexOutOfBoundsException` if there is no such pattern");
        play().refuses(INDEX, each("removePattern(?)", "0", "-1", "1", MIN, MAX)).list("a", "b")
            .refuses(INDEX, each("removePattern(?)", "2", "-1", "12", MIN, MAX)).is("removePattern(1) = 1; removePattern(0) = 0")
            .refuses(INDEX, "removePattern(0)");
        play().list("a", "a", "a", "a", "a", "a", "a", "a", "a", "a", "a", "b").refuses(INDEX, "removePattern(12)")
            .is("removePattern(11) = 11").refuses(INDEX, "removePattern(11)");

        promise(32);
        says("Returns the number of patterns.");
        play(2, "a").is("patternCount() = 0; addPattern(0) = 0; patternCount() = 1; addPattern(0) = 1; patternCount() = 2")
            .refuses(STATE, "addPattern(1)").is("patternCount() = 2; removePattern(0) = 1; patternCount() = 1; setLetters(2) = 2")
            .is("patternCount() = 0").list("a", "a", "a", "a", "a", "a", "a", "a", "a", "a", "a", "a").is("patternCount() = 12");

        promise(33);
        names("- `register`: the register");
        says("Returns whether a word avoids the patterns.");
        play(2, "ab", "aab", "abb").list("aa", "b_").is("avoids(0) = true; avoids(1) = false; avoids(2) = false");
        says("Returns true if it does.");
        play(2, "", "_", many("ab", 20), many("a", 40)).is("avoids(0) = true; avoids(1) = true; avoids(3) = true")
            .list("bb").is("avoids(0) = true; avoids(1) = true; avoids(2) = true").word(3, many("a", 38) + "bb")
            .is("avoids(3) = false").word(3, "bb" + many("a", 38)).is("avoids(3) = false").list("_").is("avoids(0) = true")
            .is("avoids(1) = false; avoids(2) = false");
        play(2, "aabab", "_abab", "abab", "__").list("aabab").is("avoids(0) = false; avoids(1) = false; avoids(2) = true")
            .is("avoids(3) = true").list("ab").is("avoids(2) = false; avoids(3) = true").word(3, "__").is("avoids(3) = false");
        says("Throws `IllegalArgumentException` if there is no such register");
        rich().refuses(ARGUMENT, each("avoids(?)", NO_REGISTER));

        avoidability();
        counting();
        cycles();
    }

    private static void avoidability() {
        promise(34);
        says("Returns whether the patterns are unavoidable.");
        play(2).list("aa", "b_b").is("isUnavoidable() = true; removePattern(0) = 1; isUnavoidable() = false");
        play(2).list("aa", "b_b", "bb").is("isUnavoidable() = true");
        play(2).list("aa", "bb").is("isUnavoidable() = false");
        play(2).list("aa", "ba_b", "bb").is("isUnavoidable() = false");
        says("Returns true if they are.");
        play(1).is("isUnavoidable() = false").list("aaaaa").is("isUnavoidable() = true; setLetters(2) = 1; isUnavoidable() = false");
        play(3).is("isUnavoidable() = false").list("a", "b").is("isUnavoidable() = false").list("c").is("isUnavoidable() = true");
        play(3).list("_____").is("isUnavoidable() = true");
        play(2).list("aaaaa", "bbbbb", "ababa").is("isUnavoidable() = false");

        promise(35);
        says("Returns whether the patterns are unavoidable and become avoidable if any one of them, whichever it is, is "
            + "removed; a pattern that is there twice is two patterns.");
        play(2).is("isMinimal() = false").list("aa").is("isMinimal() = false").list("b_b").is("isMinimal() = true")
            .list("bb").is("isMinimal() = false; removePattern(2) = 2; isMinimal() = true").list("aa")
            .is("isMinimal() = false; removePattern(0) = 2; isMinimal() = true");
        play(2).list("bb", "aa", "b_b").is("isMinimal() = false");
        play(2).list("aa", "bb", "b_b").is("isMinimal() = false");
        play(2).list("a", "b").is("isMinimal() = true").list("b").is("isMinimal() = false");
        play(2).list("_").is("isMinimal() = true").list("_").is("isMinimal() = false");
        play(3).list("a", "b", "c", "a", "a", "a", "a", "a", "a", "a", "a", "a").is("isMinimal() = false; isUnavoidable() = true");
        play(3).list(LONGEST_56_MINIMAL).is("isUnavoidable() = true; isMinimal() = true; removePattern(11) = 11")
            .is("isMinimal() = false; isUnavoidable() = false").list("cb__c").is("isMinimal() = true; removePattern(0) = 11")
            .is("isMinimal() = false").list("aa__a").is("isUnavoidable() = true; isMinimal() = true");
        play(3).list(LONGEST_58).is("isUnavoidable() = true; isMinimal() = false");
        says("Returns true if so.");
        play(1).is("isMinimal() = false").list("aaaaa").is("isMinimal() = true").list("aa").is("isMinimal() = false");
        play(3).list("a", "b", "c").is("isMinimal() = true; patternCount() = 3; isUnavoidable() = true");

        promise(36);
        says("Returns the length of the longest full words that avoid the patterns.");
        play(2).list("aa", "bb", "aba").is("longestAvoiding() = 3");
        play(2).list("aa", "b_b").is("longestAvoiding() = 4; countAvoiding(4) = 1; countAvoiding(5) = 0");
        play(3).list("a", "bb", "cc", "bcb").is("longestAvoiding() = 3");
        play(3).list(LONGEST_58).is("longestAvoiding() = 58");
        play(3).list(LONGEST_56_MINIMAL).is("longestAvoiding() = 56");
        play(3).list(LONGEST_40).is("longestAvoiding() = 40");
        says("Returns the length.");
        play(2).list("_").is("longestAvoiding() = 0").list("a").is("longestAvoiding() = 0");
        play(1).list("aaaaa").is("longestAvoiding() = 4").list("aa").is("longestAvoiding() = 1").list("a")
            .is("longestAvoiding() = 0");
        play(3).list("_____").is("longestAvoiding() = 4");
        says("Throws `NoSuchElementException` if the patterns are avoidable");
        play().refuses(NO_ELEMENT, "longestAvoiding()").list("aa").refuses(NO_ELEMENT, "longestAvoiding()").list("b_b")
            .is("longestAvoiding() = 4; removePattern(1) = 1").refuses(NO_ELEMENT, "longestAvoiding()");
    }

    private static void counting() {
        promise(37);
        says("Returns the number of full words of a length that avoid the patterns.");
        play(2).list("aa").is("countAvoiding(1) = 2; countAvoiding(2) = 3; countAvoiding(3) = 5; countAvoiding(4) = 8")
            .is("countAvoiding(5) = 13; countAvoiding(6) = 21; countAvoiding(30) = 2178309");
        play(2).list("ab_ba").is("countAvoiding(4) = 16; countAvoiding(5) = 30");
        says("- `n`: the length");
        play(3).is("countAvoiding(0) = 1; countAvoiding(1) = 3; countAvoiding(19) = 1162261467; countAvoiding(20) = 3486784401")
            .list("_").is("countAvoiding(0) = 1; countAvoiding(1) = 0; countAvoiding(30) = 0");
        play(1).is("countAvoiding(30) = 1").list("aaa").is("countAvoiding(2) = 1; countAvoiding(3) = 0");
        says("Returns the number of full words.");
        play(3).is("countAvoiding(30) = 205891132094649").list("abcab").is("countAvoiding(30) = 185312854351714");
        play(2).list("a___a").is("countAvoiding(30) = 3496900");
        play(2).list("aaa", "bb", "aabaa").is("countAvoiding(11) = 21; countAvoiding(30) = 1188");
        play(3).list(LONGEST_58).is("countAvoiding(30) = 4321");
        play(3).list(LONGEST_56_MINIMAL).is("countAvoiding(30) = 5671");
        play(3).list(CYCLE_41).is("countAvoiding(30) = 105");
        says("Throws `IllegalArgumentException` if n is not from 0 to 30");
        rich().refuses(ARGUMENT, each("countAvoiding(?)", "-1", "31", "40", MIN, MAX)).is("countAvoiding(0) = 1");
    }

    private static void cycles() {
        promise(38);
        names("- `register`: the register");
        says("Finds a word whose repetitions avoid the patterns: a full word, not empty, such that every repetition of it, "
            + "however often, avoids the patterns.");
        // ab avoids the first list, and abab does not; aab avoids the second one, and aabaab does not.
        play(2).list("aa", "bab").is("avoidingCycle(0) = 1").holds(0, "b");
        play(2).list("aaa", "bb", "baaba").is("avoidingCycle(0) = 2").holds(0, "ab");
        play(2).list("aaa", "bbb", "ba_ab", "a_a", "b_b").is("avoidingCycle(0) = 4").holds(0, "aabb");
        play(2).is("avoidingCycle(1) = 1").holds(1, "a");
        play(1).is("avoidingCycle(0) = 1").holds(0, "a").list("aaaaa").refuses(NO_ELEMENT, "avoidingCycle(0)");
        says("The result is the shortest one, and among several the lexicographically smallest one.");
        play(2).list("a_a").is("avoidingCycle(0) = 1").holds(0, "b");
        play(3).list("aaaaa").is("avoidingCycle(0) = 1").holds(0, "b");
        play(3).list("aaaaa", "bbb").is("avoidingCycle(0) = 1").holds(0, "c");
        play(3).list("aa", "bb", "c").is("avoidingCycle(0) = 2").holds(0, "ab");
        play(3).list("aa", "bb", "cc").is("avoidingCycle(0) = 2").holds(0, "ab");
        play(3).list("aa", "bb", "cc", "ab").is("avoidingCycle(0) = 2").holds(0, "ac");
        play(3).list("aa", "bb", "cc", "ba", "ac_c").is("avoidingCycle(0) = 2").holds(0, "bc");
        play(3).list("aa", "bb", "cc", "a_a", "b_b").is("avoidingCycle(0) = 3").holds(0, "abc");
        play(3).list("aa", "bb", "cc", "a_a", "b_b", "ab").is("avoidingCycle(0) = 3").holds(0, "acb");
        play(2).list("aaaa", "bb", "b_b", "b__b").is("avoidingCycle(0) = 4").holds(0, "aaab");
        play(3).list(CYCLE_40).is("avoidingCycle(0) = 40").holds(0, "ababccacbbabacccabbbacaccbabbcacabcbacbc");
        play(2).list("bbbab", "babba", "ab__a", "ba_ab", "aabbb", "aabaa", "bb__b", "aa_aa", "b_a_b", "bbb_b", "aaaba")
            .is("avoidingCycle(0) = 16").holds(0, "aaaabbabaababbbb");
        Play p = play(3).list(LONGEST_56_MINIMAL).is("removePattern(5) = 11; avoidingCycle(0) = 8").holds(0, "aaabacab");
        p.list("bac").is("removePattern(6) = 11; avoidingCycle(0) = 6").holds(0, "aaaacc");
        says("It becomes the word of the register.");
        play(2, "b_b", "_", "", many("_", 40)).list("aa", "bb").words("b_b", "_", "", many("_", 40)).is("avoidingCycle(3) = 2")
            .holds(3, "ab").holds(0, "b_b").is("avoidingCycle(0) = 2").holds(0, "ab").holds(1, "_").is("avoidingCycle(2) = 2")
            .holds(2, "ab").is("patternCount() = 2");
        says("Returns the length of the word.");
        play(3).list(CYCLE_40).is("avoidingCycle(0) = 40; length(0) = 40");
        play(2).is("avoidingCycle(0) = 1; length(0) = 1").list("a__a", "b__b", "aba").is("avoidingCycle(0) = 6; length(0) = 6")
            .holds(0, "aaabbb");
        says("Throws `IllegalArgumentException` if there is no such register");
        rich().refuses(ARGUMENT, each("avoidingCycle(?)", NO_REGISTER));
        says("Throws `NoSuchElementException` if there is no such word of at most 40 letters");
        play(2, "ab").list("aa", "b_b").refuses(NO_ELEMENT, "avoidingCycle(0)", "avoidingCycle(3)")
            .is("removePattern(0) = 1; avoidingCycle(0) = 1").holds(0, "a");
        play(3, "_").list("_").refuses(NO_ELEMENT, "avoidingCycle(0)", "avoidingCycle(1)");
        // The shortest word for this list has 41 letters, and 40 without the pattern 10: caaac.
        play(3, "ab").list(CYCLE_41).is("isUnavoidable() = false").refuses(NO_ELEMENT, "avoidingCycle(0)", "avoidingCycle(3)",
            "longestAvoiding()").is("removePattern(10) = 11; avoidingCycle(0) = 40")
            .holds(0, "aaacbbbcacaabcbbacacbabcabacbcbaacabbcbc");
    }

    // ---- promises 39 to 42

    private static void rowMethods() {
        promise(39);
        names("- `row`: the row");
        says("Creates a row of zeros in place of a row.");
        play(2, "___").is("newRow(0, 0, 3) = 3; elementBits(0, 0) = 0; elementBits(0, 2) = 0; fillDensities(0, 0) = 3")
            .is("elementBits(0, 2) = 1065353216; newRow(0, 0, 3) = 3; elementBits(0, 0) = 0; elementBits(0, 2) = 0")
            .is("newRow(1, 1, 3) = 3; fillDensities(1, 0) = 3; newRow(0, 1, 2) = 2; elementBits(1, 2) = 4607182418800017408")
            .refuses(INDEX, "elementBits(0, 2)").is("newRow(1, 0, 41) = 41; elementBits(1, 2) = 0; elementBits(1, 40) = 0");
        play(2, "__").is("newRow(0, 1, 2) = 2; fillDensities(0, 0) = 2").refuses(ARGUMENT, "newRow(0, 1, 42)")
            .is("newRow(0, 0, 1) = 1; newRow(0, 1, 2) = 2; elementBits(0, 0) = 0; elementBits(0, 1) = 0");
        says("- `type`: 0 for float, 1 for double");
        play(2, "_").is("newRow(0, 1, 1) = 1; fillDensities(0, 0) = 1; elementBits(0, 0) = 4607182418800017408")
            .is("newRow(0, 0, 1) = 1; fillDensities(0, 0) = 1; elementBits(0, 0) = 1065353216");
        says("- `size`: the number of elements");
        play().is("newRow(0, 0, 2) = 2; elementBits(0, 1) = 0").refuses(INDEX, "elementBits(0, 2)")
            .is("newRow(0, 0, 0) = 0").refuses(INDEX, "elementBits(0, 0)").is("newRow(0, 1, 41) = 41; elementBits(0, 40) = 0")
            .refuses(INDEX, "elementBits(0, 41)");
        says("Returns the number of elements.");
        play().is("newRow(0, 0, 0) = 0; newRow(1, 1, 41) = 41; newRow(0, 1, 1) = 1; newRow(1, 0, 40) = 40");
        says("Throws `IllegalArgumentException` if there is no such row or type, or size is not from 0 to 41");
        rich().refuses(ARGUMENT, each("newRow(?, 0, 1)", NO_ROW)).refuses(ARGUMENT, each("newRow(0, ?, 1)", "-1", "2", MIN, MAX))
            .refuses(ARGUMENT, each("newRow(1, 1, ?)", "-1", "42", MIN, MAX));
        play().refuses(ARGUMENT, "newRow(0, 0, 42)", "newRow(0, 2, 0)", "newRow(2, 1, 0)").refuses(STATE, "elementBits(0, 0)");

        densities();
        remainders();
        bits();
    }

    /** Checks a row against Java's own divisions of the densities of a word with this smallest weak period. */
    private static void dueDensities(Play p, int row, int type, String word, int period) {
        int holes = 0;
        for (int i = 1; i <= word.length(); i++) {
            holes += word.charAt(i - 1) == '_' ? 1 : 0;
            long want = type == 0 ? Float.floatToIntBits((float) holes / (float) i / (float) period)
                : Double.doubleToLongBits((double) holes / (double) i / (double) period);
            p.is("elementBits(" + row + ", " + (i - 1) + ") = " + want);
        }
    }

    private static void densities() {
        promise(40);
        names("- `row`: the row");
        names("- `register`: the register");
        says("Fills a row with hole densities.");
        Play p = play(2, "_a_").is("newRow(0, 1, 3) = 3; newRow(1, 0, 3) = 3; fillDensities(1, 0) = 3; elementBits(0, 0) = 0");
        dueDensities(p, 1, 0, "_a_", 1);
        p.is("fillDensities(0, 0) = 3");
        dueDensities(p, 0, 1, "_a_", 1);
        p.holds(0, "_a_");
        says("For each i, from 1 to the length of the word, the element i - 1 becomes the number of holes among the first i "
            + "symbols, divided by i, and then divided by the smallest weak period of the word.");
        // The smallest weak periods of these words are not their smallest strong ones, or are not 1.
        String[] words = {"a_b", "_ab_b", "a_b__abab_ba_abba_", "ab", "_", many("_", 40), many("a", 39) + "b",
            many("_", 20) + many("a", 19) + "b"};
        int[] periods = {1, 2, 12, 2, 1, 1, 40, 20};
        for (int i = 0; i < words.length; i++) {
            p = play(2, words[i]).is("smallestPeriod(0, true) = " + periods[i] + "; newRow(0, 0, 41) = 41; newRow(1, 1, 41) = 41")
                .is("fillDensities(0, 0) = " + words[i].length() + "; fillDensities(1, 0) = " + words[i].length());
            dueDensities(p, 0, 0, words[i], periods[i]);
            dueDensities(p, 1, 1, words[i], periods[i]);
        }
        says("The numbers are converted to the type of the row first, and the divisions are made in that type.");
        // 5 / 6 / 3 is another number if it is divided as doubles and then converted to float.
        due("two types, two results", (float) (5.0 / 6.0 / 3.0) == 5f / 6f / 3f, false);
        p = play(2, "_____aab").is("newRow(0, 0, 8) = 8; fillDensities(0, 0) = 8; smallestPeriod(0, true) = 3")
            .is("elementBits(0, 5) = " + Float.floatToIntBits(5f / 6f / 3f));
        dueDensities(p, 0, 0, "_____aab", 3);
        // 3 / 5 / 12 is another number than 3 / (5 * 12) and than 3 / 12 / 5.
        due("two orders, two results", 3.0 / 5.0 / 12.0 == 3.0 / 60.0 || 3.0 / 5.0 / 12.0 == 3.0 / 12.0 / 5.0, false);
        play(2, "a_b__abab_ba_abba_").is("newRow(1, 1, 18) = 18; fillDensities(1, 0) = 18")
            .is("elementBits(1, 4) = " + Double.doubleToLongBits(3.0 / 5.0 / 12.0));
        says("Further elements stay.");
        play(2, "____", "_a").is("newRow(0, 0, 41) = 41; fillDensities(0, 0) = 4; elementBits(0, 4) = 0; fillDensities(0, 1) = 2")
            .is("elementBits(0, 1) = 1056964608; elementBits(0, 2) = 1065353216; elementBits(0, 3) = 1065353216")
            .is("elementBits(0, 4) = 0; fillDensities(0, 2) = 0; elementBits(0, 0) = 1065353216; elementBits(0, 40) = 0");
        says("Returns the number of elements that were set, 0 for the empty word.");
        play(2, "ab", "", many("_", 40)).is("newRow(0, 0, 41) = 41; fillDensities(0, 0) = 2; fillDensities(0, 1) = 0")
            .is("fillDensities(0, 2) = 40; newRow(1, 1, 0) = 0; fillDensities(1, 1) = 0; newRow(1, 0, 40) = 40")
            .is("fillDensities(1, 2) = 40");
        says("Throws `IllegalArgumentException` if there is no such row or register");
        rich().refuses(ARGUMENT, each("fillDensities(?, 0)", NO_ROW)).refuses(ARGUMENT, each("fillDensities(0, ?)",
            NO_REGISTER)).refuses(ARGUMENT, "fillDensities(2, 4)");
        says("Throws `IllegalStateException` if the row is missing or has fewer elements than the word has symbols");
        play(2, "_a_", "").refuses(STATE, "fillDensities(0, 0)", "fillDensities(1, 0)", "fillDensities(0, 1)")
            .is("newRow(0, 0, 2) = 2").refuses(STATE, "fillDensities(0, 0)", "fillDensities(1, 0)", "fillDensities(1, 1)")
            .is("newRow(0, 0, 3) = 3; fillDensities(0, 0) = 3; newRow(0, 1, 0) = 0").refuses(STATE, "fillDensities(0, 0)")
            .is("fillDensities(0, 1) = 0").word(2, many("_", 40)).is("newRow(1, 1, 39) = 39").refuses(STATE, "fillDensities(1, 2)");
    }

    private static void remainders() {
        promise(41);
        names("- `row`: the row");
        names("- `i`: the index of the element");
        names("- `j`: the index of the divisor");
        says("Replaces an element of a row by its remainder in the division by another element, as the operator % computes it "
            + "for the type of the row.");
        String word = "_a__aab_a_";
        Play p = play(2, word).is("newRow(0, 0, 11) = 11; newRow(1, 1, 11) = 11; fillDensities(0, 0) = 10")
            .is("fillDensities(1, 0) = 10");
        int period = Integer.parseInt(answer(p.x, "smallestPeriod(0, true)"));
        float[] floats = new float[10];
        double[] doubles = new double[10];
        int holes = 0;
        for (int i = 0; i < 10; i++) {
            holes += word.charAt(i) == '_' ? 1 : 0;
            floats[i] = (float) holes / (float) (i + 1) / (float) period;
            doubles[i] = (double) holes / (double) (i + 1) / (double) period;
        }
        for (int round = 0; round < 60; round++) {
            int i = round * 7 % 10;
            int j = (round * 3 + 1) % 10;
            for (int row = 0; row < 2; row++) {
                boolean isZero = row == 0 ? floats[j] == 0 : doubles[j] == 0;
                String call = "takeRemainder(" + row + ", " + i + ", " + j + ")";
                if (isZero) {
                    p.is(call + " = throws " + ARITHMETIC);
                } else if (row == 0) {
                    floats[i] = floats[i] % floats[j];
                    p.is(call + " = " + (int) ((double) floats[i] * 1000000.0));
                    p.is("elementBits(0, " + i + ") = " + Float.floatToIntBits(floats[i]));
                } else {
                    doubles[i] = doubles[i] % doubles[j];
                    p.is(call + " = " + (int) (doubles[i] * 1000000.0));
                    p.is("elementBits(1, " + i + ") = " + Double.doubleToLongBits(doubles[i]));
                }
            }
        }
        says("Returns the new element, converted to double, multiplied by 1000000.0 and converted to int by a cast.");
        // 1, 1/2, 1/3, 1/2: the remainder of 1/2 by 1/3 is near 166666.67, which the cast cuts off.
        play(2, "_aa_").is("newRow(0, 0, 5) = 5; fillDensities(0, 0) = 4; takeRemainder(0, 1, 2) = 166666")
            .is("takeRemainder(0, 2, 0) = 333333; takeRemainder(0, 0, 0) = 0; takeRemainder(0, 4, 2) = 0; elementBits(0, 0) = 0");
        play(2, "_aa_").is("newRow(0, 1, 5) = 5; fillDensities(0, 0) = 4; takeRemainder(0, 1, 2) = 166666")
            .is("takeRemainder(0, 2, 0) = 333333; takeRemainder(0, 0, 2) = 0; takeRemainder(0, 3, 3) = 0");
        says("Throws `IllegalArgumentException` if there is no such row");
        rich().refuses(ARGUMENT, each("takeRemainder(?, 0, 0)", NO_ROW));
        says("Throws `IllegalStateException` if the row is missing");
        play().refuses(STATE, "takeRemainder(0, 0, 0)", "takeRemainder(1, 0, 0)").is("newRow(1, 0, 1) = 1")
            .refuses(STATE, "takeRemainder(0, 0, 0)", "takeRemainder(0, -1, 9)").refuses(ARITHMETIC, "takeRemainder(1, 0, 0)");
        says("Throws `IndexOutOfBoundsException` if one of both indices is out of range");
        p = play(2, "__").is("newRow(0, 0, 2) = 2; fillDensities(0, 0) = 2; newRow(1, 1, 0) = 0");
        p.refuses(INDEX, each("takeRemainder(0, ?, 0)", "2", "-1", "40", MIN, MAX)).refuses(INDEX, each("takeRemainder(0, 0, ?)",
            "2", "-1", "40", MIN, MAX)).refuses(INDEX, "takeRemainder(1, 0, 0)").is("takeRemainder(0, 1, 0) = 0")
            .refuses(INDEX, "takeRemainder(0, 2, 1)").is("takeRemainder(0, 0, 0) = 0").word(0, many("_", 40))
            .is("newRow(0, 0, 41) = 41; fillDensities(0, 0) = 40; takeRemainder(0, 40, 39) = 0; takeRemainder(0, 0, 39) = 0")
            .refuses(INDEX, "takeRemainder(0, 41, 39)", "takeRemainder(0, 39, 41)");
        says("Throws `ArithmeticException` if the divisor is 0");
        play(2, "a__").is("newRow(0, 0, 4) = 4; newRow(1, 1, 4) = 4; fillDensities(0, 0) = 3; fillDensities(1, 0) = 3")
            .refuses(ARITHMETIC, "takeRemainder(0, 1, 0)", "takeRemainder(0, 0, 0)", "takeRemainder(0, 1, 3)",
                "takeRemainder(1, 2, 0)", "takeRemainder(1, 3, 3)").is("takeRemainder(0, 1, 1) = 0")
            .refuses(ARITHMETIC, "takeRemainder(0, 1, 1)", "takeRemainder(0, 2, 1)").is("takeRemainder(0, 0, 2) = 0");
    }

    private static void bits() {
        promise(42);
        names("- `row`: the row");
        names("- `i`: the index");
        says("Returns the bits of an element of a row.");
        play(2, "_a").is("newRow(0, 0, 3) = 3; newRow(1, 1, 3) = 3; fillDensities(0, 0) = 2; fillDensities(1, 0) = 2")
            .is("elementBits(0, 0) = 1065353216; elementBits(0, 1) = 1056964608; elementBits(0, 2) = 0")
            .is("elementBits(1, 0) = 4607182418800017408; elementBits(1, 1) = 4602678819172646912; elementBits(1, 2) = 0");
        says("Returns the bits as given by Float.floatToIntBits, as a long, or by Double.doubleToLongBits.");
        for (int n = 1; n <= 40; n++) {
            // The smallest element that is not 0 is 1 / n / n, as the only hole is the first symbol.
            String word = n == 1 ? "_" : n == 2 ? "_b" : "_" + many("a", n - 2) + "b";
            Play p = play(2, word).is("newRow(0, 0, 41) = 41; newRow(1, 1, 41) = 41; fillDensities(0, 0) = " + n)
                .is("fillDensities(1, 0) = " + n);
            int period = Integer.parseInt(answer(p.x, "smallestPeriod(0, true)"));
            dueDensities(p, 0, 0, word, period);
            dueDensities(p, 1, 1, word, period);
        }
        says("Throws `IllegalArgumentException` if there is no such row");
        rich().refuses(ARGUMENT, each("elementBits(?, 0)", NO_ROW));
        says("Throws `IllegalStateException` if the row is missing");
        play().refuses(STATE, "elementBits(0, 0)", "elementBits(1, 0)", "elementBits(0, -1)", "elementBits(1, 41)")
            .is("newRow(0, 1, 1) = 1; elementBits(0, 0) = 0").refuses(STATE, "elementBits(1, 0)");
        says("Throws `IndexOutOfBoundsException` if there is no such element");
        play().is("newRow(0, 0, 2) = 2; newRow(1, 1, 41) = 41").refuses(INDEX, each("elementBits(0, ?)", "2", "-1", "40", MIN,
            MAX)).refuses(INDEX, "elementBits(1, 41)", "elementBits(1, -1)").is("elementBits(0, 1) = 0; elementBits(1, 40) = 0")
            .is("newRow(0, 0, 0) = 0").refuses(INDEX, "elementBits(0, 0)");
    }

    // ---- promises 43 and 44

    private static void snapshotMethods() {
        promise(43);
        says("Saves the number of letters, the words and the patterns, in place of an earlier snapshot.");
        play(3, "abc", "_", "", "c").list("cc", "a_c").words("abc", "_", "", "c").is("saveSnapshot() = 2; setLetters(1) = 3")
            .is("restoreSnapshot() = 2").holds(0, "abc").holds(1, "_").holds(2, "").holds(3, "c").is("avoids(0) = false")
            .is("countAvoiding(2) = 8; countAvoiding(3) = 20; removePattern(0) = 1; countAvoiding(2) = 9; setLetters(2) = 3");
        play(2, "ab").list("b").is("saveSnapshot() = 1; setLetters(3) = 2; append(1, 2) = 1; saveSnapshot() = 0; setLetters(2) = 3")
            .is("restoreSnapshot() = 0").holds(0, "").holds(1, "c").is("setLetters(3) = 3");
        says("Input, error position and rows are not saved, and stay when a snapshot is restored.");
        Play p = play(2, "_").text("(").parseRefused(0).text("ab").is("newRow(0, 0, 1) = 1; saveSnapshot() = 0")
            .text("a?").parseRefused(0).text("_").is("newRow(0, 1, 2) = 2").word(0, "_").is("fillDensities(0, 0) = 1")
            .is("newRow(1, 0, 1) = 1; restoreSnapshot() = 0; errorPosition() = 3; elementBits(0, 0) = 4607182418800017408");
        p.is("elementBits(0, 1) = 0; elementBits(1, 0) = 0; feed(95) = 2; parseWord(2) = 2").holds(2, "__");
        play().is("saveSnapshot() = 0").text("(").parseRefused(0).text("ab").is("restoreSnapshot() = 0; errorPosition() = 1")
            .is("parseWord(0) = 2").text("ab").is("saveSnapshot() = 0; feed(97) = 3; errorPosition() = 1");
        says("Returns the number of patterns.");
        play(2, "a").is("saveSnapshot() = 0; addPattern(0) = 0; saveSnapshot() = 1")
            .list("a", "a", "a", "a", "a", "a", "a", "a", "a", "a", "a").is("saveSnapshot() = 12; removePattern(0) = 11")
            .is("saveSnapshot() = 11");

        promise(44);
        says("Restores what was saved by the latest snapshot, which is kept.");
        play(2, "ab", "a", "", "b").list("aa", "_b").words("ab", "a", "", "b").is("saveSnapshot() = 2; removePattern(0) = 1")
            .is("append(0, 0) = 3; clear(1) = 1; append(2, -1) = 1; setSymbol(3, 0, 0) = 1; restoreSnapshot() = 2")
            .holds(0, "ab").holds(1, "a").holds(2, "").holds(3, "b").is("longestAvoiding() = 2; setLetters(3) = 2")
            .is("append(0, 2) = 1; addPattern(0) = 0; restoreSnapshot() = 2").holds(0, "ab").holds(1, "a")
            .is("longestAvoiding() = 2; removePattern(1) = 1; setSymbol(0, 0, 1) = 0; restoreSnapshot() = 2; restoreSnapshot() = 2")
            .holds(0, "ab").is("isUnavoidable() = true; removePattern(0) = 1; isUnavoidable() = false; longestAvoiding() = throws "
                + NO_ELEMENT).refuses(ARGUMENT, "append(0, 2)").is("setLetters(1) = 2");
        says("Returns the number of patterns.");
        play(2, "a").is("saveSnapshot() = 0; addPattern(0) = 0; restoreSnapshot() = 0; patternCount() = 0; addPattern(0) = 0")
            .is("saveSnapshot() = 1; removePattern(0) = 0; restoreSnapshot() = 1; patternCount() = 1");
        says("Throws `IllegalStateException` if no snapshot was saved");
        play(2, "ab").list("a").text("a").refuses(STATE, "restoreSnapshot()").is("saveSnapshot() = 1; restoreSnapshot() = 1")
            .is("restoreSnapshot() = 1");
    }
}
