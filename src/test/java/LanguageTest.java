import java.io.DataInputStream;
import java.io.IOException;
import java.lang.reflect.Field;
import java.lang.reflect.Method;
import java.lang.reflect.Modifier;
import java.nio.file.Files;
import java.nio.file.Path;
import java.util.ArrayList;
import java.util.List;
import java.util.Set;
import java.util.regex.Matcher;
import java.util.regex.Pattern;
import java.util.stream.Stream;

/**
 * The rules of LANGUAGE.md that can be read from the source and the class files. The lists are narrower than the
 * rules: they hold what the class uses, so what is new in it has to be looked up in the rules first.
 */
public final class LanguageTest {
    private static final Set<String> THROWN = Set.of("java/lang/IllegalStateException",
        "java/lang/IllegalArgumentException", "java/lang/IndexOutOfBoundsException", "java/lang/ArithmeticException",
        "java/util/NoSuchElementException");
    private static final Set<String> CALLED = Set.of("java/lang/Object.<init>", "java/lang/Math.min");
    private static final String[] BARRED = {"->", "::", "\\bcatch\\b", "\\btry\\b", "\\bfinally\\b", "\\bsynchronized\\b",
        "\\bassert\\b", "\\bpackage\\b", "\\bstrictfp\\b", "\\bnative\\b", "\\bgoto\\b", "@\\w", "\\bprotected\\b",
        "\\b(MAX|MIN)_VALUE\\b",
        "[^\\x00-\\x7f]"};
    private static final int MOST_LINES = 60;
    private static final int MOST_CLASSES = 12;
    private static final int MOST_FIELDS = 20;
    private static final int MOST_PARAMETERS = 7;

    private static int wrong = 0;

    private static void check(boolean isRight, String what) {
        if (!isRight) {
            wrong++;
            System.out.println("LanguageTest: " + what);
        }
    }

    public static void main(String[] args) throws Exception {
        source(Files.readAllLines(Path.of(System.getProperty("source"))));
        List<Path> files = new ArrayList<>();
        try (Stream<Path> all = Files.list(Path.of(System.getProperty("classes")))) {
            all.filter(p -> p.toString().endsWith(".class")).forEach(files::add);
        }
        check(!files.isEmpty() && files.size() <= MOST_CLASSES, files.size() + " classes");
        for (Path file : files) {
            library(file);
            members(Class.forName(file.getFileName().toString().replace(".class", "")));
        }
        System.out.println("LanguageTest: " + files.size() + " classes, " + wrong + " wrong");
        if (wrong != 0) {
            System.exit(1);
        }
    }

    private static void source(List<String> lines) {
        String text = String.join("\n", lines);
        String code = text.replaceAll("(?s)/\\*.*?\\*/", "").replaceAll("//[^\n]*", "").replaceAll("\"[^\"\n]*\"", "\"\"");
        for (String barred : BARRED) {
            Matcher m = Pattern.compile(barred).matcher(code);
            check(!m.find(), "the source has " + barred);
        }
        Matcher imports = Pattern.compile("(?m)^import (.*);").matcher(code);
        while (imports.find()) {
            check(imports.group(1).equals("java.util.NoSuchElementException"), "the import of " + imports.group(1));
        }
        Matcher thrown = Pattern.compile("\\bthrow\\b(?! new \\w+(Exception)\\()").matcher(code);
        check(!thrown.find(), "a throw of something that is not new");
        // All work space is made with the object, so that a run of calls makes nothing but the exceptions (rule 12).
        for (String line : code.split("\n")) {
            check(!line.matches(".*\\bnew\\b.*") || line.matches(" +throw new .*| +(private )?final .* = new .*")
                || line.matches(" +\\w+\\[i\\] = new \\w+\\(\\);"), "an object that may be made by a call: " + line.trim());
        }
        methods(lines);
    }

    /** A method begins with a line that ends with a brace, 4 or 8 columns in, and ends at the brace in its column. */
    private static void methods(List<String> lines) {
        for (int i = 0; i < lines.size(); i++) {
            Matcher start = Pattern.compile("^( {4}| {8})(\\w.*\\(.*)").matcher(lines.get(i));
            if (!start.find() || start.group(2).matches("(for|if|while|switch|return|throw)\\b.*|.*;$")) {
                continue;
            }
            int end = i;
            while (end < lines.size() && !lines.get(end).equals(start.group(1) + "}")) {
                end++;
            }
            check(end - i < MOST_LINES, "a method of " + (end - i) + " lines: " + lines.get(i).trim());
        }
    }

    private static void members(Class<?> type) {
        int own = 0;
        for (Field f : type.getDeclaredFields()) {
            boolean isStatic = Modifier.isStatic(f.getModifiers());
            own += isStatic ? 0 : 1;
            check(!isStatic || Modifier.isFinal(f.getModifiers()) && (f.getType().isPrimitive()
                || f.getType() == String.class), "the static field " + f);
        }
        check(own <= MOST_FIELDS, own + " fields in " + type);
        for (Method m : type.getDeclaredMethods()) {
            check(m.getParameterCount() <= MOST_PARAMETERS, "too many parameters of " + m);
        }
    }

    /** Looks at all that a class file names of other classes. */
    private static void library(Path file) throws IOException {
        Object[] pool = pool(file);
        for (Object entry : pool) {
            if (!(entry instanceof int[])) {
                continue;
            }
            int[] reference = (int[]) entry;
            check(reference[0] != 18 && reference[0] != 17, file + " has a computed call");
            if (reference[0] == 7) {
                String name = (String) pool[reference[1]];
                check(name.startsWith("HoleWords") || name.startsWith("[") || name.equals("java/lang/Object")
                    || name.equals("java/lang/Math") || THROWN.contains(name)
                    || name.startsWith("java/lang/invoke/"), file + " names " + name);
            }
            if (reference[0] == 9 || reference[0] == 10 || reference[0] == 11) {
                String owner = (String) pool[((int[]) pool[reference[1]])[1]];
                String name = (String) pool[((int[]) pool[reference[2]])[1]];
                check(owner.startsWith("HoleWords") || CALLED.contains(owner + "." + name)
                    || THROWN.contains(owner) && name.equals("<init>"), file + " uses " + owner + "." + name);
            }
        }
    }

    /** The constant pool: texts, and for references their tag and indices. */
    private static Object[] pool(Path file) throws IOException {
        try (DataInputStream in = new DataInputStream(Files.newInputStream(file))) {
            in.readInt();
            in.readInt();
            Object[] pool = new Object[in.readUnsignedShort()];
            for (int i = 1; i < pool.length; i++) {
                int tag = in.readUnsignedByte();
                switch (tag) {
                    case 1:
                        pool[i] = in.readUTF();
                        break;
                    case 3: case 4:
                        in.readInt();
                        break;
                    case 5: case 6:
                        in.readLong();
                        i++;
                        break;
                    case 7: case 8: case 16: case 19: case 20:
                        pool[i] = new int[] {tag, in.readUnsignedShort()};
                        break;
                    case 15:
                        in.readUnsignedByte();
                        in.readUnsignedShort();
                        break;
                    default:
                        pool[i] = new int[] {tag, in.readUnsignedShort(), in.readUnsignedShort()};
                        break;
                }
            }
            return pool;
        }
    }
}
