import java.lang.reflect.InvocationTargetException;
import java.lang.reflect.Method;
import java.lang.reflect.Modifier;
import java.util.Arrays;
import java.util.Comparator;

/** Runs the tests of a class, each of its methods that is not private, and tells what is not as due. */
final class Checks {
    // Written out here, so that a wrong constant of the class does not hide a wrong answer.
    static final int UNKNOWN = -1, OUTSIDE = -2, STATE = -3, FULL = -4, NO = -5, NONE = -6;
    static final int MIN = Integer.MIN_VALUE, MAX = Integer.MAX_VALUE;

    private static int wrong = 0;
    private static String test = "";
    private static String sentence = "";

    private Checks() {
    }

    /** The words of the document that the answers after it are due by. */
    static void says(String words) {
        sentence = words;
    }

    static void due(String call, int got, int want) {
        if (got != want) {
            fail(call + " answered " + got + ", due is " + want);
        }
    }

    static void holds(String what, boolean so) {
        if (!so) {
            fail("not so: " + what);
        }
    }

    static void fail(String what) {
        wrong++;
        System.out.println(test + ": " + what + "  [" + sentence + "]");
    }

    static void runAll(Class<?> tests) {
        Method[] methods = tests.getDeclaredMethods();
        Arrays.sort(methods, Comparator.comparing(Method::getName));
        int ran = 0;
        for (Method method : methods) {
            if (isTest(method)) {
                run(method);
                ran++;
            }
        }
        holds("there are tests", ran > 0);
        System.out.println(ran + " tests, " + (wrong == 0 ? "all answers are as due" : wrong + " answers are not as due"));
        if (wrong != 0) {
            System.exit(1);
        }
    }

    private static boolean isTest(Method method) {
        int is = method.getModifiers();
        return Modifier.isStatic(is) && !Modifier.isPrivate(is) && !method.isSynthetic() && method.getParameterCount() == 0;
    }

    private static void run(Method method) {
        test = method.getName();
        sentence = "";
        try {
            method.invoke(null);
        } catch (InvocationTargetException e) {
            fail("threw " + e.getCause());
        } catch (IllegalAccessException e) {
            fail("cannot be run: " + e);
        }
    }
}
