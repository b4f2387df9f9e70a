import java.io.IOException;
import java.lang.reflect.Constructor;
import java.lang.reflect.Field;
import java.lang.reflect.Method;
import java.lang.reflect.Modifier;
import java.nio.file.Files;
import java.nio.file.Path;
import java.util.Arrays;
import java.util.HashSet;
import java.util.Set;
import java.util.TreeSet;
import java.util.regex.Matcher;
import java.util.regex.Pattern;

/** The public face, and those rules of LANGUAGE.md that a test can see. Runs from the project's directory. */
public final class FaceTest {
    private static final Path SOURCE = Path.of("src/main/java/BoxBindings.java");
    private static int wrong = 0;

    private static void check(boolean holds, String what) {
        if (!holds) {
            wrong++;
            System.out.println("not so: " + what);
        }
    }

    private static void publicFace() {
        Set<String> due = new TreeSet<>(Arrays.asList("rule 2", "out 5", "in 4", "turn 4", "part 5", "tick 1", "drop 1",
            "of 2", "sent 3", "find 4", "next 2", "why 3", "block 1", "host 2", "soon 0", "image 1", "restore 1",
            "count 1"));
        Set<String> found = new TreeSet<>();
        Set<String> publicNames = new HashSet<>();
        for (Method m : BoxBindings.class.getDeclaredMethods()) {
            if (Modifier.isPublic(m.getModifiers())) {
                found.add(m.getName() + " " + m.getParameterCount());
                publicNames.add(m.getName());
                check(m.getReturnType() == int.class && !Modifier.isStatic(m.getModifiers()), m + " is as told");
                for (Class<?> type : m.getParameterTypes()) {
                    check(type == int.class, m + " takes ints");
                }
            }
        }
        check(found.equals(due), "public methods are " + due + ", found " + found);
        check(Modifier.isPublic(BoxBindings.class.getModifiers()), "the class is public");
        check(Modifier.isFinal(BoxBindings.class.getModifiers()), "the class is final");
        Constructor<?>[] makers = BoxBindings.class.getDeclaredConstructors();
        check(makers.length == 1 && Modifier.isPublic(makers[0].getModifiers()) && makers[0].getParameterCount() == 0,
            "one public constructor without numbers");
        restIsPrivate(publicNames);
    }

    private static void restIsPrivate(Set<String> publicNames) {
        Set<String> constants = Set.of("UNKNOWN", "OUTSIDE", "STATE", "FULL", "NO", "NONE");
        for (Field f : BoxBindings.class.getDeclaredFields()) {
            boolean shown = constants.contains(f.getName());
            check(shown ? Modifier.isPublic(f.getModifiers()) : Modifier.isPrivate(f.getModifiers()), f + " is as told");
            check(!Modifier.isStatic(f.getModifiers()) || Modifier.isFinal(f.getModifiers()), f + " is final");
        }
        for (Method m : BoxBindings.class.getDeclaredMethods()) {
            boolean shown = Modifier.isPublic(m.getModifiers());
            check(shown || Modifier.isPrivate(m.getModifiers()), m + " is public or private");
            check(shown || !publicNames.contains(m.getName()), m + " has a name of its own");
        }
        for (Class<?> inside : BoxBindings.class.getDeclaredClasses()) {
            check(Modifier.isStatic(inside.getModifiers()), inside + " is static");
            check(!Modifier.isPublic(inside.getModifiers()), inside + " is not public");
            for (Method m : inside.getDeclaredMethods()) {
                check(!publicNames.contains(m.getName()), m + " has a name of its own");
                check(m.getParameterCount() <= 7, m + " takes at most seven");
            }
        }
    }

    private static String withoutComments(String source) {
        return source.replaceAll("(?s)/\\*.*?\\*/", "").replaceAll("//[^\n]*", "");
    }

    private static void languageRules() throws IOException {
        String text = withoutComments(Files.readString(SOURCE));
        Matcher banned = Pattern.compile("\\b(throw|throws|try|catch|synchronized|assert|package|native|volatile|"
            + "protected|Exact)\\b|->|::|@").matcher(text);
        while (banned.find()) {
            check(false, "the class has no " + banned.group());
        }
        Matcher imports = Pattern.compile("import ([^;]+);").matcher(text);
        while (imports.find()) {
            check(Set.of("java.util.Arrays", "java.util.ArrayList", "java.util.List").contains(imports.group(1)),
                "an import that is listed: " + imports.group(1));
        }
        Matcher calls = Pattern.compile("\\b(System|Arrays|Integer|Math|Long)\\.(\\w+)").matcher(text);
        Set<String> listed = Set.of("System.arraycopy", "Arrays.fill", "Arrays.copyOf", "Arrays.copyOfRange",
            "Integer.bitCount");
        while (calls.find()) {
            check(listed.contains(calls.group()), "a call that is listed: " + calls.group());
        }
        check(text.chars().allMatch(c -> c < 128), "plain signs alone");
    }

    private static void methodsAreShort() throws IOException {
        int length = 0;
        for (String line : Files.readAllLines(SOURCE)) {
            boolean starts = line.matches("\\s+[^=;]*\\) \\{") && !line.matches("\\s+(\\} )?(if|for|else|switch|while).*");
            length = starts ? 0 : length + 1;
            check(length <= 60 || !line.startsWith("            "), "a method of at most sixty lines: " + line);
        }
    }

    public static void main(String[] args) throws IOException {
        publicFace();
        languageRules();
        methodsAreShort();
        System.out.println(wrong == 0 ? "the face is as told" : wrong + " things are not as told");
        if (wrong != 0) {
            System.exit(1);
        }
    }
}
