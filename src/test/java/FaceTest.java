import java.lang.reflect.Constructor;
import java.lang.reflect.Field;
import java.lang.reflect.Method;
import java.lang.reflect.Modifier;
import java.nio.file.Files;
import java.nio.file.Path;
import java.util.List;
import java.util.Set;
import java.util.TreeSet;

/** The class has just the members that the document's public face names (LANGUAGE.md, rule 1). */
public final class FaceTest {
    private static int wrong = 0;

    private static void check(boolean isRight, String what) {
        if (!isRight) {
            wrong++;
            System.out.println("FaceTest: " + what);
        }
    }

    public static void main(String[] args) throws Exception {
        Set<String> due = face(Files.readAllLines(Path.of(System.getProperty("doc"))));
        Set<String> got = members();
        check(due.size() == 44, "the document's face has " + due.size() + " members");
        for (String member : due) {
            check(got.contains(member), "missing: " + member);
        }
        for (String member : got) {
            check(due.contains(member), "not in the document: " + member);
        }
        int modifiers = HoleWords.class.getModifiers();
        check(Modifier.isPublic(modifiers) && Modifier.isFinal(modifiers), "the class is not public and final");
        hidden();
        System.out.println("FaceTest: " + got.size() + " members, " + wrong + " wrong");
        if (wrong != 0) {
            System.exit(1);
        }
    }

    /** The members of the first Java block, without the names of parameters. */
    private static Set<String> face(List<String> lines) {
        Set<String> members = new TreeSet<>();
        boolean isInside = false;
        for (String line : lines) {
            if (line.startsWith("```")) {
                if (isInside) {
                    break;
                }
                isInside = true;
            }
            if (isInside && line.startsWith("    public ")) {
                members.add(line.trim().replaceAll("\\b(int|long|boolean) \\w+([,)])", "$1$2").replace(";", ""));
            }
        }
        return members;
    }

    private static Set<String> members() {
        Set<String> members = new TreeSet<>();
        for (Constructor<?> c : HoleWords.class.getDeclaredConstructors()) {
            members.add("public HoleWords" + signature(c.getParameterTypes(), c.getExceptionTypes()));
        }
        for (Method m : HoleWords.class.getDeclaredMethods()) {
            if (!Modifier.isPrivate(m.getModifiers())) {
                members.add((Modifier.isPublic(m.getModifiers()) ? "public " : "") + (Modifier.isStatic(m.getModifiers())
                    ? "static " : "") + m.getReturnType().getSimpleName() + " " + m.getName()
                    + signature(m.getParameterTypes(), m.getExceptionTypes()));
            }
        }
        return members;
    }

    private static String signature(Class<?>[] parameters, Class<?>[] exceptions) {
        return "(" + names(parameters) + ")" + (exceptions.length == 0 ? "" : " throws " + names(exceptions));
    }

    private static String names(Class<?>[] types) {
        StringBuilder names = new StringBuilder();
        for (Class<?> type : types) {
            names.append(names.length() == 0 ? "" : ", ").append(type.getSimpleName());
        }
        return names.toString();
    }

    private static void hidden() {
        Set<String> open = new TreeSet<>();
        for (Method m : HoleWords.class.getDeclaredMethods()) {
            if (Modifier.isPublic(m.getModifiers())) {
                open.add(m.getName());
            }
        }
        for (Field f : HoleWords.class.getDeclaredFields()) {
            check(Modifier.isPrivate(f.getModifiers()), "a field is not private: " + f.getName());
        }
        for (Method m : HoleWords.class.getDeclaredMethods()) {
            check(Modifier.isPublic(m.getModifiers()) || !open.contains(m.getName()),
                "a private method bears the name of a public one: " + m.getName());
        }
        for (Class<?> inner : HoleWords.class.getDeclaredClasses()) {
            int modifiers = inner.getModifiers();
            check(Modifier.isStatic(modifiers) && !Modifier.isPublic(modifiers) && !Modifier.isProtected(modifiers),
                "a class inside is not static and hidden: " + inner.getName());
            for (Method m : inner.getDeclaredMethods()) {
                check(!open.contains(m.getName()), "a method inside bears the name of a public one: " + m);
            }
        }
    }
}
