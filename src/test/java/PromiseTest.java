import java.util.NoSuchElementException;

/** At least one test for each promise of the document: ordinary inputs, the named edges and wrong inputs. */
public final class PromiseTest {
    private static final Class<IllegalArgumentException> ARGUMENT = IllegalArgumentException.class;
    private static final Class<IllegalStateException> STATE = IllegalStateException.class;
    private static final Class<IndexOutOfBoundsException> INDEX = IndexOutOfBoundsException.class;
    private static final Class<ArithmeticException> ARITHMETIC = ArithmeticException.class;
    private static final Class<NoSuchElementException> NO_ELEMENT = NoSuchElementException.class;
    private static final int[] WRONG_REGISTERS = {-1, 4, Integer.MIN_VALUE, Integer.MAX_VALUE};

    private static int wrong = 0;
    private static int checks = 0;
    private static int promise = 0;

    private interface Call {
        Object answer();
    }

    public static void main(String[] args) {
        words();
        texts();
        changes();
        relations();
        periods();
        completions();
        patterns();
        rows();
        snapshots();
        System.out.println("PromiseTest: " + checks + " checks, " + wrong + " wrong");
        if (wrong != 0) {
            System.exit(1);
        }
    }

    // ---- helpers

    private static void due(String what, Object got, Object want) {
        checks++;
        if (!got.equals(want)) {
            wrong++;
            System.out.println("promise " + promise + ": " + what + " answered " + got + ", due is " + want);
        }
    }

    private static void dueThrow(String what, Class<? extends RuntimeException> want, Call call) {
        Object got;
        try {
            got = call.answer();
        } catch (RuntimeException e) {
            got = e.getClass();
        }
        due(what, got, want);
    }

    /** Sets a register to a word that is written with a, b, c and _. */
    private static void set(HoleWords x, int register, String text) {
        x.clear(register);
        for (char c : text.toCharArray()) {
            x.append(register, c == '_' ? -1 : c - 'a');
        }
    }

    private static String get(HoleWords x, int register) {
        StringBuilder text = new StringBuilder();
        for (int i = 0; i < x.length(register); i++) {
            int symbol = x.symbol(register, i);
            text.append(symbol == -1 ? '_' : (char) ('a' + symbol));
        }
        return text.toString();
    }

    private static HoleWords with(int letters, String... words) {
        HoleWords x = new HoleWords();
        x.setLetters(letters);
        for (int i = 0; i < words.length; i++) {
            set(x, i, words[i]);
        }
        return x;
    }

    private static HoleWords listing(int letters, String... patterns) {
        HoleWords x = new HoleWords();
        x.setLetters(letters);
        for (String pattern : patterns) {
            set(x, 3, pattern);
            x.addPattern(3);
        }
        x.clear(3);
        return x;
    }

    private static void feedAll(HoleWords x, String text) {
        for (char c : text.toCharArray()) {
            x.feed(c);
        }
    }

    // ---- promises 1 to 3, 7, 8

    private static void words() {
        promise = 1;
        HoleWords fresh = new HoleWords();
        for (int r = 0; r < 4; r++) {
            due("length(" + r + ")", fresh.length(r), 0);
        }
        due("patternCount()", fresh.patternCount(), 0);
        dueThrow("elementBits(0, 0)", STATE, () -> fresh.elementBits(0, 0));
        dueThrow("elementBits(1, 0)", STATE, () -> fresh.elementBits(1, 0));
        dueThrow("append(0, 2) with two letters", ARGUMENT, () -> fresh.append(0, 2));
        due("append(0, 1) with two letters", fresh.append(0, 1), 1);
        due("setLetters(2)", fresh.setLetters(2), 2);
        HoleWords other = new HoleWords();
        due("length(0) of another object", other.length(0), 0);

        promise = 2;
        HoleWords x = with(2, "ab", "_", "a", "b");
        x.addPattern(0);
        feedAll(x, "c2");
        x.newRow(0, 0, 3);
        for (int k : new int[] {0, 4, -1, Integer.MAX_VALUE, Integer.MIN_VALUE}) {
            dueThrow("setLetters(" + k + ")", ARGUMENT, () -> x.setLetters(k));
        }
        due("length(0) after wrong calls", x.length(0), 2);
        due("patternCount() after wrong calls", x.patternCount(), 1);
        due("setLetters(2)", x.setLetters(2), 2);
        due("lengths", x.length(0) + x.length(1) + x.length(2) + x.length(3), 0);
        due("patternCount()", x.patternCount(), 0);
        due("setLetters(3)", x.setLetters(3), 2);
        due("append(3, 2)", x.append(3, 2), 1);
        due("the input stays: parseWord(0)", x.parseWord(0), 2);
        due("word", get(x, 0), "cc");
        due("the row stays", x.elementBits(0, 2), 0L);
        due("setLetters(1)", x.setLetters(1), 3);
        dueThrow("append(0, 1)", ARGUMENT, () -> x.append(0, 1));
        due("setLetters(2)", x.setLetters(2), 1);
        set(x, 0, "a");
        x.addPattern(0);
        x.setLetters(2);
        set(x, 0, "ab");
        x.addPattern(0);
        set(x, 0, "ba");
        due("avoids ba after a was removed as a pattern", x.avoids(0), true);
        due("isUnavoidable()", x.isUnavoidable(), false);

        promise = 3;
        HoleWords y = new HoleWords();
        due("append(2, 0)", y.append(2, 0), 1);
        due("append(2, -1)", y.append(2, -1), 2);
        due("append(2, 1)", y.append(2, 1), 3);
        due("word", get(y, 2), "a_b");
        due("other register", y.length(1), 0);
        for (int symbol : new int[] {-2, 2, 3, Integer.MIN_VALUE, Integer.MAX_VALUE}) {
            dueThrow("append(2, " + symbol + ")", ARGUMENT, () -> y.append(2, symbol));
        }
        for (int n = 4; n <= 40; n++) {
            due("append", y.append(2, n % 2), n);
        }
        dueThrow("append to 40 symbols", STATE, () -> y.append(2, 0));
        dueThrow("append a wrong symbol to 40 symbols", ARGUMENT, () -> y.append(2, 2));
        due("length(2)", y.length(2), 40);
        for (int r : WRONG_REGISTERS) {
            dueThrow("append(" + r + ", 0)", ARGUMENT, () -> y.append(r, 0));
        }

        promise = 7;
        due("length(2)", y.length(2), 40);
        due("length(3)", y.length(3), 0);
        for (int r : WRONG_REGISTERS) {
            dueThrow("length(" + r + ")", ARGUMENT, () -> y.length(r));
        }

        promise = 8;
        due("symbol(2, 0)", y.symbol(2, 0), 0);
        due("symbol(2, 1)", y.symbol(2, 1), -1);
        due("symbol(2, 39)", y.symbol(2, 39), 0);
        dueThrow("symbol(2, 40)", INDEX, () -> y.symbol(2, 40));
        dueThrow("symbol(2, -1)", INDEX, () -> y.symbol(2, -1));
        dueThrow("symbol(3, 0)", INDEX, () -> y.symbol(3, 0));
        for (int r : WRONG_REGISTERS) {
            dueThrow("symbol(" + r + ", 99)", ARGUMENT, () -> y.symbol(r, 99));
        }
    }

    // ---- promises 4 to 6

    private static void dueText(int letters, String text, String want) {
        HoleWords x = new HoleWords();
        x.setLetters(letters);
        feedAll(x, text);
        due("parseWord of " + text, x.parseWord(0), want.length());
        due("the word of " + text, get(x, 0), want);
        dueThrow("errorPosition() after " + text, NO_ELEMENT, () -> x.errorPosition());
        due("the input after " + text, x.feed('a'), 1);
    }

    private static void dueError(int letters, String text, int position) {
        HoleWords x = with(letters, "a_");
        feedAll(x, text);
        dueThrow("parseWord of " + text, STATE, () -> x.parseWord(0));
        due("errorPosition() after " + text, x.errorPosition(), position);
        due("the word after " + text, get(x, 0), "a_");
        due("the input after " + text, x.feed('a'), 1);
    }

    private static void texts() {
        promise = 4;
        HoleWords x = new HoleWords();
        for (int character : new int[] {32, 127, 0, -1, 97 + 256, Integer.MAX_VALUE, Integer.MIN_VALUE}) {
            dueThrow("feed(" + character + ")", ARGUMENT, () -> x.feed(character));
        }
        due("feed(33)", x.feed(33), 1);
        due("feed(126)", x.feed(126), 2);
        for (int n = 3; n <= 30; n++) {
            due("feed(97)", x.feed(97), n);
        }
        dueThrow("feed(97) to 30 characters", STATE, () -> x.feed(97));
        dueThrow("feed(32) to 30 characters", ARGUMENT, () -> x.feed(32));
        dueThrow("parseWord(0)", STATE, () -> x.parseWord(0));
        due("errorPosition()", x.errorPosition(), 0);
        due("feed(97) after parseWord", x.feed(97), 1);

        promise = 5;
        dueText(2, "", "");
        dueText(2, "ab_ab", "ab_ab");
        dueText(2, "(ab)2b", "ababb");
        dueText(2, "(a)(_)", "a_");
        dueText(2, "((((a))))", "a");
        dueText(2, "(a)(b)(a)(b)(_)", "abab_");
        dueText(2, "((a2b)2_)3", "aabaab_aabaab_aabaab_");
        dueText(2, "(a2)2(b)3", "aaaabbb");
        dueText(3, "c9b2", "cccccccccbb");
        dueText(1, "a_a", "a_a");
        dueText(2, "(_9)4_4", "_".repeat(40));
        dueText(2, "a".repeat(30), "a".repeat(30));
        dueText(2, "(a5)8", "a".repeat(40));
        for (String text : new String[] {"a9a9a9a9a5", "(a9)5", "((((a9)9)9)9)9", "(a5)8_", "((a9a9)2a5)", "((((a2)2)2)2)3"}) {
            HoleWords y = with(2, "b_");
            feedAll(y, text);
            dueThrow("parseWord of the long " + text, STATE, () -> y.parseWord(0));
            dueThrow("errorPosition() after the long " + text, NO_ELEMENT, () -> y.errorPosition());
            due("the word after the long " + text, get(y, 0), "b_");
            due("the input after the long " + text, y.feed('a'), 1);
        }
        HoleWords again = new HoleWords();
        for (String text : new String[] {"(a9)9", "((a", "(a9)9", "a", "2", "a2", ")", "(a"}) {
            feedAll(again, text);
            if (text.equals("a") || text.equals("a2")) {
                due("parseWord of " + text + " after others", again.parseWord(0), text.length());
            } else {
                dueThrow("parseWord of " + text + " after others", STATE, () -> again.parseWord(0));
            }
        }
        HoleWords z = with(2, "", "b");
        feedAll(z, "_a");
        for (int r : WRONG_REGISTERS) {
            dueThrow("parseWord(" + r + ")", ARGUMENT, () -> z.parseWord(r));
        }
        due("the input stays", z.feed('a'), 3);
        due("parseWord(3)", z.parseWord(3), 3);
        due("the word", get(z, 3), "_aa");
        due("parseWord(1) of no input", z.parseWord(1), 0);
        due("the word", get(z, 1), "");

        promise = 6;
        dueThrow("errorPosition()", NO_ELEMENT, () -> new HoleWords().errorPosition());
        dueError(2, "(", 1);
        dueError(2, "a(", 2);
        dueError(2, "(a", 2);
        dueError(2, "((a)2", 5);
        dueError(2, "()", 1);
        dueError(2, "a()", 2);
        dueError(2, "(a()", 3);
        dueError(2, ")", 0);
        dueError(2, "a)", 1);
        dueError(2, "(a))", 3);
        dueError(2, "2", 0);
        dueError(2, "(2", 1);
        dueError(2, "a1", 1);
        dueError(2, "a0", 1);
        dueError(2, "a23", 2);
        dueError(2, "(a)22", 4);
        dueError(2, "(a2)2b(2", 7);
        dueError(2, "ac", 1);
        dueError(1, "ab", 1);
        dueError(3, "abcd", 3);
        dueError(2, "aA", 1);
        dueError(2, "a:", 1);
        dueError(2, "a/", 1);
        dueError(2, "`", 0);
        dueError(2, "a-", 1);
        dueError(2, "(((((", 4);
        dueError(2, "((((a)(", 7);
        dueError(2, "((((a)((", 7);
        dueError(2, "(a9)9(b", 7);
        dueError(2, "((((a9)9)9)9)9c", 14);
        HoleWords y = new HoleWords();
        feedAll(y, "abc");
        dueThrow("parseWord(0)", STATE, () -> y.parseWord(0));
        feedAll(y, "ab");
        y.parseWord(0);
        feedAll(y, "(a9)9");
        dueThrow("parseWord(0)", STATE, () -> y.parseWord(0));
        due("errorPosition() stays", y.errorPosition(), 2);
        feedAll(y, "?");
        dueThrow("parseWord(9)", ARGUMENT, () -> y.parseWord(9));
        due("errorPosition() stays", y.errorPosition(), 2);
        dueThrow("parseWord(0)", STATE, () -> y.parseWord(0));
        due("errorPosition() of the latest", y.errorPosition(), 0);
    }

    // ---- promises 9 to 14

    private static void changes() {
        promise = 9;
        HoleWords x = with(2, "a_b");
        due("setSymbol(0, 1, 1)", x.setSymbol(0, 1, 1), -1);
        due("setSymbol(0, 0, -1)", x.setSymbol(0, 0, -1), 0);
        due("word", get(x, 0), "_bb");
        dueThrow("setSymbol(0, 0, 2)", ARGUMENT, () -> x.setSymbol(0, 0, 2));
        dueThrow("setSymbol(0, 0, -2)", ARGUMENT, () -> x.setSymbol(0, 0, -2));
        dueThrow("setSymbol(0, 3, 2)", ARGUMENT, () -> x.setSymbol(0, 3, 2));
        dueThrow("setSymbol(0, 3, 0)", INDEX, () -> x.setSymbol(0, 3, 0));
        dueThrow("setSymbol(0, -1, 0)", INDEX, () -> x.setSymbol(0, -1, 0));
        for (int r : WRONG_REGISTERS) {
            dueThrow("setSymbol(" + r + ", 0, 0)", ARGUMENT, () -> x.setSymbol(r, 0, 0));
        }
        due("word", get(x, 0), "_bb");

        promise = 10;
        due("clear(0)", x.clear(0), 3);
        due("length(0)", x.length(0), 0);
        due("clear(0)", x.clear(0), 0);
        for (int r : WRONG_REGISTERS) {
            dueThrow("clear(" + r + ")", ARGUMENT, () -> x.clear(r));
        }

        promise = 11;
        HoleWords y = with(2, "a_", "bbb", "", "_".repeat(20));
        due("concatenate(0, 1)", y.concatenate(0, 1), 5);
        due("word 0", get(y, 0), "a_bbb");
        due("word 1", get(y, 1), "bbb");
        due("concatenate(0, 0)", y.concatenate(0, 0), 10);
        due("word 0", get(y, 0), "a_bbba_bbb");
        due("concatenate(2, 0)", y.concatenate(2, 0), 10);
        due("concatenate(3, 3)", y.concatenate(3, 3), 40);
        dueThrow("concatenate(3, 1)", STATE, () -> y.concatenate(3, 1));
        dueThrow("concatenate(1, 3)", STATE, () -> y.concatenate(1, 3));
        dueThrow("concatenate(3, 3)", STATE, () -> y.concatenate(3, 3));
        y.clear(2);
        due("concatenate(3, 2)", y.concatenate(3, 2), 40);
        due("word 1", get(y, 1), "bbb");
        due("word 3", get(y, 3), "_".repeat(40));
        for (int r : WRONG_REGISTERS) {
            dueThrow("concatenate(" + r + ", 3)", ARGUMENT, () -> y.concatenate(r, 3));
            dueThrow("concatenate(3, " + r + ")", ARGUMENT, () -> y.concatenate(3, r));
        }

        promise = 12;
        HoleWords z = with(2, "ab_", "a_a", "", "abba");
        due("reverse(0)", z.reverse(0), false);
        due("word", get(z, 0), "_ba");
        due("reverse(1)", z.reverse(1), true);
        due("reverse(2)", z.reverse(2), true);
        due("reverse(3)", z.reverse(3), true);
        set(z, 3, "a_");
        due("a hole is not a letter", z.reverse(3), false);
        for (int r : WRONG_REGISTERS) {
            dueThrow("reverse(" + r + ")", ARGUMENT, () -> z.reverse(r));
        }

        promise = 13;
        HoleWords w = with(3, "abc_", "abab", "", "a_");
        due("rotate(0, 1)", w.rotate(0, 1), false);
        due("word", get(w, 0), "bc_a");
        due("rotate(0, 3)", w.rotate(0, 3), false);
        due("word", get(w, 0), "abc_");
        due("rotate(0, 0)", w.rotate(0, 0), true);
        due("rotate(0, 4)", w.rotate(0, 4), true);
        due("word", get(w, 0), "abc_");
        due("rotate(1, 2)", w.rotate(1, 2), true);
        due("rotate(1, 1)", w.rotate(1, 1), false);
        due("rotate(2, 0)", w.rotate(2, 0), true);
        due("rotate(3, 1)", w.rotate(3, 1), false);
        for (int n : new int[] {-1, 5, Integer.MIN_VALUE, Integer.MAX_VALUE}) {
            dueThrow("rotate(0, " + n + ")", INDEX, () -> w.rotate(0, n));
        }
        due("word", get(w, 0), "abc_");
        for (int r : WRONG_REGISTERS) {
            dueThrow("rotate(" + r + ", 99)", ARGUMENT, () -> w.rotate(r, 99));
        }

        promise = 14;
        HoleWords h = with(2, "a_b_", "ab", "", "_".repeat(40));
        due("holes(0)", h.holes(0), 2);
        due("holes(1)", h.holes(1), 0);
        due("holes(2)", h.holes(2), 0);
        due("holes(3)", h.holes(3), 40);
        for (int r : WRONG_REGISTERS) {
            dueThrow("holes(" + r + ")", ARGUMENT, () -> h.holes(r));
        }
    }

    // ---- promises 15 to 18

    private static void relations() {
        promise = 15;
        HoleWords x = with(2, "a_b", "_ab", "aab", "abb");
        due("isCompatible(0, 1)", x.isCompatible(0, 1), true);
        due("isCompatible(1, 0)", x.isCompatible(1, 0), true);
        due("isCompatible(0, 3)", x.isCompatible(0, 3), true);
        due("isCompatible(1, 3)", x.isCompatible(1, 3), false);
        due("isCompatible(2, 3)", x.isCompatible(2, 3), false);
        due("isCompatible(3, 3)", x.isCompatible(3, 3), true);

        promise = 16;
        due("isContained(0, 2)", x.isContained(0, 2), true);
        due("isContained(2, 0)", x.isContained(2, 0), false);
        due("isContained(0, 1)", x.isContained(0, 1), false);
        due("isContained(1, 3)", x.isContained(1, 3), false);
        due("isContained(0, 0)", x.isContained(0, 0), true);

        promise = 17;
        due("conflict(0, 1)", x.conflict(0, 1), -1);
        due("conflict(2, 3)", x.conflict(2, 3), 1);
        due("conflict(1, 3)", x.conflict(1, 3), 1);
        HoleWords y = with(2, "", "a", "ab", "bb");
        due("conflict(2, 3)", y.conflict(2, 3), 0);
        due("conflict(0, 0)", y.conflict(0, 0), -1);
        dueThrow("conflict(1, 2)", STATE, () -> y.conflict(1, 2));
        dueThrow("conflict(0, 1)", STATE, () -> y.conflict(0, 1));

        promise = 15;
        due("isCompatible(1, 2)", y.isCompatible(1, 2), false);
        due("isCompatible(2, 1)", y.isCompatible(2, 1), false);
        due("isCompatible(0, 0)", y.isCompatible(0, 0), true);
        promise = 16;
        due("isContained(1, 2)", y.isContained(1, 2), false);
        due("isContained(0, 1)", y.isContained(0, 1), false);
        due("isContained(0, 0)", y.isContained(0, 0), true);
        for (int r : WRONG_REGISTERS) {
            promise = 15;
            dueThrow("isCompatible(" + r + ", 0)", ARGUMENT, () -> y.isCompatible(r, 0));
            dueThrow("isCompatible(0, " + r + ")", ARGUMENT, () -> y.isCompatible(0, r));
            promise = 16;
            dueThrow("isContained(" + r + ", 0)", ARGUMENT, () -> y.isContained(r, 0));
            dueThrow("isContained(0, " + r + ")", ARGUMENT, () -> y.isContained(0, r));
            promise = 17;
            dueThrow("conflict(" + r + ", 0)", ARGUMENT, () -> y.conflict(r, 0));
            dueThrow("conflict(0, " + r + ")", ARGUMENT, () -> y.conflict(0, r));
            promise = 18;
            dueThrow("join(" + r + ", 2, 0)", ARGUMENT, () -> y.join(r, 2, 0));
            dueThrow("join(2, " + r + ", 0)", ARGUMENT, () -> y.join(2, r, 0));
            dueThrow("join(2, 3, " + r + ")", ARGUMENT, () -> y.join(2, 3, r));
            dueThrow("join(2, 2, " + r + ")", ARGUMENT, () -> y.join(2, 2, r));
        }

        promise = 18;
        HoleWords z = with(2, "a___", "__b_", "abba", "aa__");
        due("join(0, 1, 2)", z.join(0, 1, 2), 2);
        due("word 2", get(z, 2), "a_b_");
        due("join(1, 3, 1)", z.join(1, 3, 1), 1);
        due("word 1", get(z, 1), "aab_");
        due("join(2, 0, 0)", z.join(2, 0, 0), 2);
        due("word 0", get(z, 0), "a_b_");
        due("join(0, 0, 0)", z.join(0, 0, 0), 2);
        set(z, 3, "ab__");
        dueThrow("join(1, 3, 0)", STATE, () -> z.join(1, 3, 0));
        due("word 0", get(z, 0), "a_b_");
        set(z, 3, "a");
        dueThrow("join(1, 3, 0)", STATE, () -> z.join(1, 3, 0));
        z.clear(0);
        z.clear(1);
        due("join(0, 1, 3)", z.join(0, 1, 3), 0);
        due("word 3", get(z, 3), "");
    }

    // ---- promises 19 to 24

    private static void duePeriods(String word, String weak, String strong, int border, int exponent) {
        HoleWords x = with(3, word);
        int n = word.length();
        for (int p = 1; p <= n; p++) {
            int period = p;
            promise = 19;
            due("isPeriod(" + word + ", " + p + ", true)", x.isPeriod(0, period, true), weak.contains(" " + p + " "));
            due("isPeriod(" + word + ", " + p + ", false)", x.isPeriod(0, period, false), strong.contains(" " + p + " "));
        }
        promise = 20;
        due("smallestPeriod(" + word + ", true)", x.smallestPeriod(0, true), Integer.valueOf(weak.trim().split(" ")[0]));
        due("smallestPeriod(" + word + ", false)", x.smallestPeriod(0, false), Integer.valueOf(strong.trim().split(" ")[0]));
        promise = 22;
        due("longestBorder(" + word + ")", x.longestBorder(0), border);
        promise = 23;
        due("isPrimitive(" + word + ")", x.isPrimitive(0), exponent == 1);
        promise = 24;
        due("exponent(" + word + ")", x.exponent(0), exponent);
    }

    private static void periods() {
        duePeriods("ab_ab", " 3 5 ", " 3 5 ", 2, 1);
        duePeriods("a_b", " 1 3 ", " 3 ", 2, 1);
        duePeriods("a", " 1 ", " 1 ", 0, 1);
        duePeriods("_", " 1 ", " 1 ", 0, 1);
        duePeriods("__", " 1 2 ", " 1 2 ", 1, 2);
        duePeriods("abab", " 2 4 ", " 2 4 ", 2, 2);
        duePeriods("ab_b", " 2 4 ", " 2 4 ", 2, 2);
        duePeriods("ab__ab", " 2 4 6 ", " 2 4 6 ", 4, 3);
        duePeriods("a__b", " 1 2 4 ", " 2 4 ", 3, 2);
        duePeriods("a_b_a_", " 1 3 4 5 6 ", " 3 4 5 6 ", 5, 2);
        duePeriods("aaaaaa", " 1 2 3 4 5 6 ", " 1 2 3 4 5 6 ", 5, 6);
        duePeriods("abcabcabc", " 3 6 9 ", " 3 6 9 ", 6, 3);
        duePeriods("aab", " 3 ", " 3 ", 0, 1);

        HoleWords x = with(2, "ab_ab", "");
        promise = 19;
        for (int p : new int[] {0, 6, -1, Integer.MIN_VALUE, Integer.MAX_VALUE}) {
            dueThrow("isPeriod(0, " + p + ", true)", ARGUMENT, () -> x.isPeriod(0, p, true));
            dueThrow("isPeriod(0, " + p + ", false)", ARGUMENT, () -> x.isPeriod(0, p, false));
        }
        dueThrow("isPeriod(1, 1, true)", ARGUMENT, () -> x.isPeriod(1, 1, true));
        dueThrow("isPeriod(1, 0, false)", ARGUMENT, () -> x.isPeriod(1, 0, false));
        promise = 20;
        dueThrow("smallestPeriod(1, true)", NO_ELEMENT, () -> x.smallestPeriod(1, true));
        dueThrow("smallestPeriod(1, false)", NO_ELEMENT, () -> x.smallestPeriod(1, false));
        promise = 22;
        due("longestBorder(1)", x.longestBorder(1), 0);
        promise = 23;
        due("isPrimitive(1)", x.isPrimitive(1), false);
        promise = 24;
        dueThrow("exponent(1)", NO_ELEMENT, () -> x.exponent(1));
        set(x, 2, "_".repeat(40));
        due("exponent(2)", x.exponent(2), 40);
        for (int r : WRONG_REGISTERS) {
            promise = 19;
            dueThrow("isPeriod(" + r + ", 1, true)", ARGUMENT, () -> x.isPeriod(r, 1, true));
            promise = 20;
            dueThrow("smallestPeriod(" + r + ", true)", ARGUMENT, () -> x.smallestPeriod(r, true));
            promise = 22;
            dueThrow("longestBorder(" + r + ")", ARGUMENT, () -> x.longestBorder(r));
            promise = 23;
            dueThrow("isPrimitive(" + r + ")", ARGUMENT, () -> x.isPrimitive(r));
            promise = 24;
            dueThrow("exponent(" + r + ")", ARGUMENT, () -> x.exponent(r));
        }

        promise = 21;
        due("periodBound(6, 4, 0)", x.periodBound(6, 4, 0), 8);
        due("periodBound(4, 6, 0)", x.periodBound(4, 6, 0), 8);
        due("periodBound(6, 4, 1)", x.periodBound(6, 4, 1), 10);
        due("periodBound(1, 1, 0)", x.periodBound(1, 1, 0), 1);
        due("periodBound(1000, 1000, 0)", x.periodBound(1000, 1000, 0), 1000);
        due("periodBound(1000, 1000, 1)", x.periodBound(1000, 1000, 1), 2000);
        due("periodBound(999, 1000, 0)", x.periodBound(999, 1000, 0), 1998);
        due("periodBound(700, 350, 0)", x.periodBound(700, 350, 0), 700);
        int[][] outside = {{0, 4, 1}, {4, 0, 1}, {1001, 4, 0}, {4, 1001, 0}, {6, 4, 2}, {6, 4, -1}, {-6, 4, 0},
            {6, Integer.MIN_VALUE, 0}, {Integer.MAX_VALUE, Integer.MAX_VALUE, 0}};
        for (int[] a : outside) {
            dueThrow("periodBound" + java.util.Arrays.toString(a), ARGUMENT, () -> x.periodBound(a[0], a[1], a[2]));
        }
    }

    // ---- promises 25 to 29

    private static void completions() {
        promise = 25;
        HoleWords x = with(3, "_".repeat(40), "a_b_", "", "_".repeat(39));
        dueThrow("completionCount of 40 holes", ARITHMETIC, () -> x.completionCount(0));
        due("completionCount(1)", x.completionCount(1), 9L);
        due("completionCount(2)", x.completionCount(2), 1L);
        due("completionCount(3)", x.completionCount(3), 4052555153018976267L);
        HoleWords y = with(2, "_".repeat(40), "ab", "a__");
        due("completionCount of 40 holes, 2 letters", y.completionCount(0), 1L << 40);
        due("completionCount(1)", y.completionCount(1), 1L);
        due("completionCount(2)", y.completionCount(2), 4L);
        HoleWords z = with(1, "_".repeat(40));
        due("completionCount with 1 letter", z.completionCount(0), 1L);

        promise = 26;
        String[] all = {"aaba", "aabb", "aabc", "abba", "abbb", "abbc", "acba", "acbb", "acbc"};
        for (int i = 0; i < all.length; i++) {
            due("complete(1, " + i + ", 2)", x.complete(1, i, 2), 4);
            due("the completion " + i, get(x, 2), all[i]);
        }
        for (long number : new long[] {-1, 9, 1L << 32, Long.MIN_VALUE, Long.MAX_VALUE}) {
            dueThrow("complete(1, " + number + ", 2)", NO_ELEMENT, () -> x.complete(1, number, 2));
        }
        due("word 1", get(x, 1), "a_b_");
        due("word 2", get(x, 2), "acbc");
        dueThrow("complete(0, 0, 1)", ARITHMETIC, () -> x.complete(0, 0, 1));
        dueThrow("complete(0, -1, 1)", ARITHMETIC, () -> x.complete(0, -1, 1));
        due("complete(3, last, 2)", x.complete(3, 4052555153018976266L, 2), 39);
        due("word 2", get(x, 2), "c".repeat(39));
        due("complete(1, 5, 1)", x.complete(1, 5, 1), 4);
        due("word 1", get(x, 1), "abbc");
        due("complete(1, 0, 1)", x.complete(1, 0, 1), 4);
        dueThrow("complete(1, 1, 1)", NO_ELEMENT, () -> x.complete(1, 1, 1));
        x.clear(2);
        due("complete(2, 0, 1)", x.complete(2, 0, 1), 0);
        due("word 1", get(x, 1), "");
        due("complete(0, 0, 0) with 1 letter", z.complete(0, 0, 0), 40);
        due("the word", get(z, 0), "a".repeat(40));

        promise = 27;
        HoleWords p = with(2, "a_b__", "____", "", "_".repeat(8));
        due("primitiveCompletions(0)", p.primitiveCompletions(0), 8);
        due("primitiveCompletions(1)", p.primitiveCompletions(1), 12);
        due("primitiveCompletions(2)", p.primitiveCompletions(2), 0);
        dueThrow("primitiveCompletions of 8 holes", STATE, () -> p.primitiveCompletions(3));
        set(p, 3, "_".repeat(7));
        due("primitiveCompletions of 7 holes", p.primitiveCompletions(3), 126);
        set(p, 3, "______");
        due("primitiveCompletions of 6 holes", p.primitiveCompletions(3), 54);
        set(p, 3, "_");
        due("primitiveCompletions(_)", p.primitiveCompletions(3), 2);
        set(p, 3, "a_");
        due("primitiveCompletions(a_)", p.primitiveCompletions(3), 1);
        set(p, 3, "abab");
        due("primitiveCompletions(abab)", p.primitiveCompletions(3), 0);
        set(p, 3, "abaab_");
        due("primitiveCompletions(abaab_)", p.primitiveCompletions(3), 1);
        HoleWords q = with(3, "_______");
        due("primitiveCompletions of 7 holes, 3 letters", q.primitiveCompletions(0), 2184);

        promise = 28;
        HoleWords c = with(2, "a_bb", "ab", "", "_".repeat(40));
        due("complexity(0, 0)", c.complexity(0, 0), 1);
        due("complexity(0, 1)", c.complexity(0, 1), 2);
        due("complexity(0, 2)", c.complexity(0, 2), 3);
        due("complexity(0, 3)", c.complexity(0, 3), 3);
        due("complexity(0, 4)", c.complexity(0, 4), 2);
        due("complexity(0, 5)", c.complexity(0, 5), 0);
        due("complexity(2, 0)", c.complexity(2, 0), 1);
        due("complexity(2, 1)", c.complexity(2, 1), 0);
        due("complexity(3, 6)", c.complexity(3, 6), 64);
        due("complexity(3, 0)", c.complexity(3, 0), 1);
        for (int n : new int[] {-1, 7, Integer.MIN_VALUE, Integer.MAX_VALUE}) {
            dueThrow("complexity(0, " + n + ")", ARGUMENT, () -> c.complexity(0, n));
        }
        HoleWords d = with(3, "_".repeat(40), "abcabc");
        due("complexity(0, 6) with 3 letters", d.complexity(0, 6), 729);
        due("complexity(1, 3)", d.complexity(1, 3), 3);
        due("complexity(1, 6)", d.complexity(1, 6), 1);

        promise = 29;
        HoleWords o = with(2, "aba_b", "a_", "", "b");
        due("occurrences(1, 0)", o.occurrences(1, 0), 3);
        due("occurrences(3, 0)", o.occurrences(3, 0), 3);
        due("occurrences(2, 0)", o.occurrences(2, 0), 6);
        due("occurrences(2, 2)", o.occurrences(2, 2), 1);
        due("occurrences(0, 0)", o.occurrences(0, 0), 1);
        due("occurrences(0, 3)", o.occurrences(0, 3), 0);
        due("occurrences(3, 2)", o.occurrences(3, 2), 0);
        due("occurrences(1, 3)", o.occurrences(1, 3), 0);
        for (int r : WRONG_REGISTERS) {
            promise = 25;
            dueThrow("completionCount(" + r + ")", ARGUMENT, () -> o.completionCount(r));
            promise = 26;
            dueThrow("complete(" + r + ", 0, 0)", ARGUMENT, () -> o.complete(r, 0, 0));
            dueThrow("complete(0, 9, " + r + ")", ARGUMENT, () -> o.complete(0, 9, r));
            promise = 27;
            dueThrow("primitiveCompletions(" + r + ")", ARGUMENT, () -> o.primitiveCompletions(r));
            promise = 28;
            dueThrow("complexity(" + r + ", 1)", ARGUMENT, () -> o.complexity(r, 1));
            promise = 29;
            dueThrow("occurrences(" + r + ", 0)", ARGUMENT, () -> o.occurrences(r, 0));
            dueThrow("occurrences(0, " + r + ")", ARGUMENT, () -> o.occurrences(0, r));
        }
    }

    // ---- promises 30 to 38

    private static void patterns() {
        promise = 30;
        HoleWords x = with(2, "ab", "a_b_a", "", "aaaaaa");
        due("addPattern(0)", x.addPattern(0), 0);
        due("addPattern(0) again", x.addPattern(0), 1);
        due("addPattern(1)", x.addPattern(1), 2);
        dueThrow("addPattern(2) of the empty word", STATE, () -> x.addPattern(2));
        dueThrow("addPattern(3) of 6 symbols", STATE, () -> x.addPattern(3));
        for (int r : WRONG_REGISTERS) {
            dueThrow("addPattern(" + r + ")", ARGUMENT, () -> x.addPattern(r));
        }
        due("patternCount()", x.patternCount(), 3);
        for (int i = 3; i < 12; i++) {
            due("addPattern(0)", x.addPattern(0), i);
        }
        dueThrow("addPattern(0), the 13th", STATE, () -> x.addPattern(0));
        dueThrow("addPattern(4), the 13th", ARGUMENT, () -> x.addPattern(4));
        set(x, 0, "bb");
        due("a pattern is a copy of the word", x.avoids(0), true);

        promise = 31;
        for (int i : new int[] {-1, 12, Integer.MIN_VALUE, Integer.MAX_VALUE}) {
            dueThrow("removePattern(" + i + ")", INDEX, () -> x.removePattern(i));
        }
        due("removePattern(11)", x.removePattern(11), 11);
        dueThrow("removePattern(11)", INDEX, () -> x.removePattern(11));
        HoleWords y = listing(2, "aaaaa", "ab", "bbbbb", "b_b");
        due("removePattern(1)", y.removePattern(1), 3);
        set(y, 0, "ab");
        due("avoids ab", y.avoids(0), true);
        due("removePattern(1)", y.removePattern(1), 2);
        set(y, 0, "bab");
        due("avoids bab", y.avoids(0), false);
        due("removePattern(1)", y.removePattern(1), 1);
        due("avoids bab", y.avoids(0), true);
        set(y, 0, "baaaaa");
        due("avoids baaaaa", y.avoids(0), false);
        due("removePattern(0)", y.removePattern(0), 0);
        due("avoids baaaaa", y.avoids(0), true);
        dueThrow("removePattern(0)", INDEX, () -> y.removePattern(0));
        HoleWords z = listing(2, "a", "bbb", "a_a");
        z.removePattern(0);
        set(z, 0, "aabb");
        due("avoids aabb", z.avoids(0), true);
        set(z, 0, "aba");
        due("avoids aba", z.avoids(0), false);

        promise = 32;
        due("patternCount()", new HoleWords().patternCount(), 0);
        due("patternCount()", x.patternCount(), 11);
        due("patternCount()", y.patternCount(), 0);

        avoiding();
        cycles();
    }

    private static void dueUnavoidable(boolean isMinimal, int longest, int letters, String... patterns) {
        String list = String.join(",", patterns);
        HoleWords x = listing(letters, patterns);
        promise = 34;
        due("isUnavoidable() of " + list, x.isUnavoidable(), true);
        promise = 35;
        due("isMinimal() of " + list, x.isMinimal(), isMinimal);
        promise = 36;
        due("longestAvoiding() of " + list, x.longestAvoiding(), longest);
        promise = 37;
        due("countAvoiding of more letters", x.countAvoiding(longest + 1), 0L);
        due("countAvoiding of so many letters is positive", x.countAvoiding(longest) > 0, true);
        promise = 38;
        set(x, 0, "a");
        dueThrow("avoidingCycle(0) of " + list, NO_ELEMENT, () -> x.avoidingCycle(0));
        due("the word stays", get(x, 0), "a");
    }

    private static void dueAvoidable(String cycle, int letters, String... patterns) {
        String list = String.join(",", patterns);
        HoleWords x = listing(letters, patterns);
        promise = 34;
        due("isUnavoidable() of " + list, x.isUnavoidable(), false);
        promise = 35;
        due("isMinimal() of " + list, x.isMinimal(), false);
        promise = 36;
        dueThrow("longestAvoiding() of " + list, NO_ELEMENT, () -> x.longestAvoiding());
        promise = 38;
        set(x, 1, "_");
        due("avoidingCycle(1) of " + list, x.avoidingCycle(1), cycle.length());
        due("the cycle of " + list, get(x, 1), cycle);
    }

    private static void avoiding() {
        promise = 33;
        HoleWords x = listing(2, "a_a", "bb");
        String[] avoiding = {"", "a", "b", "_", "aa", "ab", "aab", "ba", "abba".substring(0, 2)};
        String[] other = {"aaa", "aba", "bb", "b_", "__", "abb", "aaba", "a_a", "_a_"};
        for (String word : avoiding) {
            set(x, 0, word);
            due("avoids " + word, x.avoids(0), true);
        }
        for (String word : other) {
            set(x, 0, word);
            due("avoids " + word, x.avoids(0), false);
        }
        HoleWords none = with(2, "ab_");
        due("avoids no pattern", none.avoids(0), true);
        HoleWords twelve = listing(3, "aaaaa", "aaaaa", "aaaaa", "aaaaa", "aaaaa", "aaaaa", "aaaaa", "aaaaa", "aaaaa",
            "aaaaa", "bbbbb", "c_c_c");
        set(twelve, 0, "bcbcbbbbaaaacacab");
        due("avoids the twelve", twelve.avoids(0), true);
        set(twelve, 0, "acbcac");
        due("avoids the twelve", twelve.avoids(0), false);
        for (int r : WRONG_REGISTERS) {
            dueThrow("avoids(" + r + ")", ARGUMENT, () -> x.avoids(r));
            promise = 38;
            dueThrow("avoidingCycle(" + r + ")", ARGUMENT, () -> x.avoidingCycle(r));
            promise = 33;
        }

        promise = 35;
        due("isMinimal() first of all", listing(2, "a", "b").isMinimal(), true);
        promise = 36;
        due("longestAvoiding() first of all", listing(2, "a", "bb").longestAvoiding(), 1);
        HoleWords changing = listing(2, "aaa", "b");
        due("longestAvoiding()", changing.longestAvoiding(), 2);
        set(changing, 0, "aa");
        changing.addPattern(0);
        due("longestAvoiding()", changing.longestAvoiding(), 1);
        promise = 38;
        due("avoidingCycle(0)", listing(2, "a_a").avoidingCycle(0), 1);
        changing.removePattern(1);
        due("avoidingCycle(1)", changing.avoidingCycle(1), 1);
        set(changing, 0, "b");
        changing.addPattern(0);
        dueThrow("avoidingCycle(1)", NO_ELEMENT, () -> changing.avoidingCycle(1));
        due("the word stays", get(changing, 1), "b");

        dueUnavoidable(false, 3, 2, "aa", "b_b", "bb");
        dueUnavoidable(true, 4, 2, "aa", "b_b");
        dueUnavoidable(false, 0, 2, "aa", "_");
        dueUnavoidable(true, 0, 2, "_");
        dueUnavoidable(false, 0, 2, "_", "_");
        dueUnavoidable(true, 4, 1, "aaaaa");
        dueUnavoidable(false, 1, 1, "aaaaa", "a_");
        dueUnavoidable(true, 4, 3, "_____");
        dueUnavoidable(true, 0, 3, "a", "b", "c");
        dueUnavoidable(false, 0, 2, "a", "b", "b");
        dueUnavoidable(true, 3, 2, "aa", "bb", "ba_");

        promise = 37;
        due("countAvoiding(3) first of all", listing(2, "aba", "b_").countAvoiding(3), 2L);
        HoleWords y = listing(2, "aa");
        long[] fibonacci = {1, 2, 3, 5, 8, 13, 21, 34};
        for (int n = 0; n < fibonacci.length; n++) {
            due("countAvoiding(" + n + ")", y.countAvoiding(n), fibonacci[n]);
        }
        due("countAvoiding(30)", y.countAvoiding(30), 2178309L);
        due("countAvoiding(30) of no patterns", listing(3).countAvoiding(30), 205891132094649L);
        due("countAvoiding(0)", listing(2, "_").countAvoiding(0), 1L);
        due("countAvoiding(1)", listing(2, "_").countAvoiding(1), 0L);
        due("countAvoiding(5)", listing(2, "aa", "bb").countAvoiding(5), 2L);
        due("countAvoiding(5) of one long pattern", listing(2, "ab_ba").countAvoiding(5), 30L);
        for (int n : new int[] {-1, 31, Integer.MIN_VALUE, Integer.MAX_VALUE}) {
            dueThrow("countAvoiding(" + n + ")", ARGUMENT, () -> y.countAvoiding(n));
        }
    }

    private static void cycles() {
        dueAvoidable("a", 2);
        dueAvoidable("a", 1);
        dueAvoidable("a", 1 + 1, "b");
        dueAvoidable("b", 2, "a");
        dueAvoidable("ab", 2, "aa", "bb");
        dueAvoidable("b", 2, "a_a");
        dueAvoidable("aabb", 2, "a_a", "b_b");
        dueAvoidable("c", 3, "aaaaa", "b_b_b");
        dueAvoidable("ab", 3, "aaa", "bb", "cccc");
        dueAvoidable("ac", 3, "aaaa", "bb", "cc", "ab");
        dueAvoidable("bc", 3, "a", "bb", "cc");
        dueAvoidable("aab", 2, "aaa", "bb", "b_b");
        dueAvoidable("abc", 3, "aa", "bb", "cc", "a_a", "b_b", "c_c", "ac");
        dueAvoidable("ab", 2, "a__a", "b__b");
        dueAvoidable("aaabbb", 2, "a__a", "b__b", "aba");
        dueAvoidable("aaab", 2, "aaaa", "bb", "b_b", "b__b");
    }

    // ---- promises 39 to 42

    private static void rows() {
        promise = 39;
        HoleWords x = new HoleWords();
        due("newRow(0, 0, 0)", x.newRow(0, 0, 0), 0);
        dueThrow("elementBits(0, 0)", INDEX, () -> x.elementBits(0, 0));
        due("newRow(0, 0, 41)", x.newRow(0, 0, 41), 41);
        due("newRow(1, 1, 2)", x.newRow(1, 1, 2), 2);
        int[][] outside = {{-1, 0, 1}, {2, 0, 1}, {0, -1, 1}, {0, 2, 1}, {0, 0, -1}, {0, 0, 42},
            {Integer.MAX_VALUE, 0, 1}, {0, Integer.MIN_VALUE, 1}, {0, 0, Integer.MAX_VALUE}};
        for (int[] a : outside) {
            dueThrow("newRow" + java.util.Arrays.toString(a), ARGUMENT, () -> x.newRow(a[0], a[1], a[2]));
        }
        due("elementBits(0, 40)", x.elementBits(0, 40), 0L);
        dueThrow("elementBits(0, 41)", INDEX, () -> x.elementBits(0, 41));
        set(x, 0, "__");
        x.fillDensities(0, 0);
        due("elementBits(0, 1)", x.elementBits(0, 1), (long) Float.floatToIntBits(1f));
        x.newRow(0, 1, 3);
        due("elementBits(0, 0) of a new row", x.elementBits(0, 0), 0L);
        due("elementBits(0, 1) of a new row", x.elementBits(0, 1), 0L);
        dueThrow("elementBits(0, 3) of a smaller row", INDEX, () -> x.elementBits(0, 3));

        densities();
        remainders();
    }

    private static void densities() {
        promise = 40;
        String word = "a_b__abab_ba_abba_";
        HoleWords x = with(2, word, "", "_".repeat(40), "_");
        dueThrow("fillDensities(0, 0), missing", STATE, () -> x.fillDensities(0, 0));
        dueThrow("fillDensities(0, 1), missing", STATE, () -> x.fillDensities(0, 1));
        for (int r : WRONG_REGISTERS) {
            dueThrow("fillDensities(0, " + r + "), missing", ARGUMENT, () -> x.fillDensities(0, r));
        }
        dueThrow("fillDensities(2, 0)", ARGUMENT, () -> x.fillDensities(2, 0));
        dueThrow("fillDensities(-1, 0)", ARGUMENT, () -> x.fillDensities(-1, 0));
        x.newRow(0, 0, word.length());
        x.newRow(1, 1, word.length() + 1);
        due("fillDensities(0, 0)", x.fillDensities(0, 0), word.length());
        due("fillDensities(1, 0)", x.fillDensities(1, 0), word.length());
        int period = x.smallestPeriod(0, true);
        int holes = 0;
        for (int i = 1; i <= word.length(); i++) {
            holes += word.charAt(i - 1) == '_' ? 1 : 0;
            float asFloat = (float) holes / (float) i / (float) period;
            double asDouble = (double) holes / (double) i / (double) period;
            promise = 42;
            due("float " + i, x.elementBits(0, i - 1), (long) Float.floatToIntBits(asFloat));
            due("double " + i, x.elementBits(1, i - 1), Double.doubleToLongBits(asDouble));
            promise = 40;
        }
        due("the element behind", x.elementBits(1, word.length()), 0L);
        dueThrow("fillDensities(0, 2), too small", STATE, () -> x.fillDensities(0, 2));
        long before = x.elementBits(1, 1);
        due("fillDensities(1, 3)", x.fillDensities(1, 3), 1);
        due("the first element", x.elementBits(1, 0), Double.doubleToLongBits(1.0));
        due("the further element", x.elementBits(1, 1), before);
        due("fillDensities(1, 1)", x.fillDensities(1, 1), 0);
        due("the first element stays", x.elementBits(1, 0), Double.doubleToLongBits(1.0));
        x.newRow(1, 1, 0);
        due("fillDensities(1, 1), no elements", x.fillDensities(1, 1), 0);
        dueThrow("fillDensities(1, 3), no elements", STATE, () -> x.fillDensities(1, 3));
        HoleWords weak = with(2, "a_b");
        weak.newRow(0, 1, 3);
        due("fillDensities by the weak period", weak.fillDensities(0, 0), 3);
        due("the element 1", weak.elementBits(0, 1), Double.doubleToLongBits(0.5));
        due("the element 2", weak.elementBits(0, 2), Double.doubleToLongBits(1.0 / 3.0));
        x.newRow(1, 0, 41);
        due("fillDensities(1, 2)", x.fillDensities(1, 2), 40);
        due("the last element", x.elementBits(1, 39), (long) Float.floatToIntBits(1f));
        due("the element 40", x.elementBits(1, 40), 0L);

        promise = 42;
        HoleWords fresh = new HoleWords();
        dueThrow("elementBits(0, -1), missing", STATE, () -> fresh.elementBits(0, -1));
        dueThrow("elementBits(2, 0)", ARGUMENT, () -> fresh.elementBits(2, 0));
        dueThrow("elementBits(-1, 0)", ARGUMENT, () -> fresh.elementBits(-1, 0));
        dueThrow("elementBits(1, -1)", INDEX, () -> x.elementBits(1, -1));
        dueThrow("elementBits(1, 41)", INDEX, () -> x.elementBits(1, 41));
    }

    /** Takes all remainders in a row several times over, beside the same with the operator. */
    private static void remainders() {
        promise = 41;
        String word = "a_b__abab_ba_abba_";
        for (int type = 0; type < 2; type++) {
            HoleWords x = with(2, word);
            x.newRow(0, type, word.length() + 1);
            x.fillDensities(0, 0);
            double[] same = new double[word.length()];
            int holes = 0;
            int period = x.smallestPeriod(0, true);
            for (int i = 0; i < same.length; i++) {
                holes += word.charAt(i) == '_' ? 1 : 0;
                same[i] = type == 0 ? (float) holes / (float) (i + 1) / (float) period
                    : (double) holes / (double) (i + 1) / (double) period;
            }
            for (int round = 0; round < 400; round++) {
                int i = round * 7 % same.length;
                int j = round * 11 / 3 % same.length;
                if (same[j] == 0) {
                    dueThrow("takeRemainder(0, " + i + ", " + j + ")", ARITHMETIC, () -> x.takeRemainder(0, i, j));
                } else {
                    same[i] = type == 0 ? (float) same[i] % (float) same[j] : same[i] % same[j];
                    due("takeRemainder(0, " + i + ", " + j + ")", x.takeRemainder(0, i, j), (int) (same[i] * 1000000.0));
                }
                due("the element", x.elementBits(0, i), type == 0 ? (long) Float.floatToIntBits((float) same[i])
                    : Double.doubleToLongBits(same[i]));
            }
        }
        HoleWords y = with(2, "_a_");
        dueThrow("takeRemainder(0, 9, 9), missing", STATE, () -> y.takeRemainder(0, 9, 9));
        dueThrow("takeRemainder(2, 0, 0)", ARGUMENT, () -> y.takeRemainder(2, 0, 0));
        dueThrow("takeRemainder(-1, 0, 0)", ARGUMENT, () -> y.takeRemainder(-1, 0, 0));
        y.newRow(0, 1, 4);
        y.fillDensities(0, 0);
        dueThrow("takeRemainder(0, 4, 0)", INDEX, () -> y.takeRemainder(0, 4, 0));
        dueThrow("takeRemainder(0, 0, 4)", INDEX, () -> y.takeRemainder(0, 0, 4));
        dueThrow("takeRemainder(0, -1, 3)", INDEX, () -> y.takeRemainder(0, -1, 3));
        dueThrow("takeRemainder(0, 0, -1)", INDEX, () -> y.takeRemainder(0, 0, -1));
        dueThrow("takeRemainder(0, 0, 3)", ARITHMETIC, () -> y.takeRemainder(0, 0, 3));
        due("takeRemainder(0, 3, 0)", y.takeRemainder(0, 3, 0), 0);
        due("takeRemainder(0, 1, 2)", y.takeRemainder(0, 1, 2), 500000);
        due("takeRemainder(0, 2, 1)", y.takeRemainder(0, 2, 1), 166666);
        due("takeRemainder(0, 0, 0)", y.takeRemainder(0, 0, 0), 0);
        dueThrow("takeRemainder(0, 0, 0) again", ARITHMETIC, () -> y.takeRemainder(0, 0, 0));
    }

    // ---- promises 43 and 44

    private static void snapshots() {
        HoleWords x = with(3, "abc", "_", "", "cc");
        promise = 44;
        dueThrow("restoreSnapshot()", STATE, () -> x.restoreSnapshot());
        promise = 43;
        x.addPattern(3);
        due("saveSnapshot()", x.saveSnapshot(), 1);
        x.addPattern(1);
        x.append(0, 0);
        x.newRow(0, 0, 2);
        feedAll(x, "?");
        dueThrow("parseWord(0)", STATE, () -> x.parseWord(0));
        feedAll(x, "ab");
        x.setLetters(2);
        promise = 44;
        due("restoreSnapshot()", x.restoreSnapshot(), 1);
        due("words", get(x, 0) + "," + get(x, 1) + "," + get(x, 2) + "," + get(x, 3), "abc,_,,cc");
        due("patternCount()", x.patternCount(), 1);
        due("avoids(3)", x.avoids(3), false);
        due("avoids(0)", x.avoids(0), true);
        due("append(0, 2)", x.append(0, 2), 4);
        promise = 43;
        due("the row stays", x.elementBits(0, 1), 0L);
        due("errorPosition() stays", x.errorPosition(), 0);
        due("the input stays", x.feed('c'), 3);
        due("parseWord(2)", x.parseWord(2), 3);
        promise = 44;
        x.removePattern(0);
        due("restoreSnapshot() again", x.restoreSnapshot(), 1);
        due("words", get(x, 0) + "," + get(x, 1) + "," + get(x, 2) + "," + get(x, 3), "abc,_,,cc");
        promise = 43;
        x.setLetters(1);
        due("saveSnapshot() in place", x.saveSnapshot(), 0);
        x.setLetters(3);
        promise = 44;
        due("restoreSnapshot()", x.restoreSnapshot(), 0);
        dueThrow("append(0, 1)", ARGUMENT, () -> x.append(0, 1));
        due("setLetters(2)", x.setLetters(2), 1);
        HoleWords y = listing(2, "aa", "_b");
        y.saveSnapshot();
        y.setLetters(2);
        due("restoreSnapshot()", y.restoreSnapshot(), 2);
        due("longestAvoiding()", y.longestAvoiding(), 2);
        y.removePattern(1);
        set(y, 0, "aa");
        due("avoids(0)", y.avoids(0), false);
    }
}
