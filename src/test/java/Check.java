import java.lang.reflect.InvocationTargetException;
import java.lang.reflect.Method;
import java.lang.reflect.Modifier;
import java.util.Arrays;
import java.util.Comparator;
import java.util.concurrent.Callable;

/** Counts answers that are not as due; a test class ends with end(), or runs all its tests by all(). */
final class Check {
    private static int made = 0;
    private static int wrong = 0;
    private static String test = "";

    private Check() {
    }

    /** Runs each static method without parameters of a class, and ends; so that none is forgotten. */
    static void all(Class<?> tests) {
        Method[] methods = tests.getDeclaredMethods();
        Arrays.sort(methods, Comparator.comparing(Method::getName));
        for (Method method : methods) {
            boolean isTest = Modifier.isStatic(method.getModifiers()) && method.getParameterCount() == 0
                    && method.getReturnType() == void.class && !method.isSynthetic();
            if (isTest) {
                one(method);
            }
        }
        end();
    }

    private static void one(Method method) {
        test = method.getName() + ": ";
        int before = made;
        try {
            method.setAccessible(true);
            method.invoke(null);
        } catch (InvocationTargetException e) {
            due("the test itself", "ended by " + e.getCause(), "went through");
        } catch (ReflectiveOperationException e) {
            due("the test itself", "could not run: " + e, "went through");
        }
        yes("it checks something", made > before);
    }

    static void due(String what, Object got, Object want) {
        made++;
        if (!want.equals(got)) {
            wrong++;
            System.out.println(test + what + " answered " + got + ", due is " + want);
        }
    }

    static void yes(String what, boolean got) {
        due(what, got, true);
    }

    static void no(String what, boolean got) {
        due(what, got, false);
    }

    /** The call must throw exactly this class; Edge.refused looks more closely whether it changes nothing. */
    static void refused(String what, Bandworld world, Class<?> want, Callable<?> call) {
        long sum = world.checksum();
        int notes = world.happenings();
        Object got;
        try {
            got = call.call();
        } catch (Exception e) {
            got = e.getClass();
        }
        due(what, got, want);
        due(what + " changes no sum, which", world.checksum(), sum);
        due(what + " notes nothing, so happenings()", world.happenings(), notes);
    }

    static void index(String what, Bandworld world, Callable<?> call) {
        refused(what, world, IndexOutOfBoundsException.class, call);
    }

    static void argument(String what, Bandworld world, Callable<?> call) {
        refused(what, world, IllegalArgumentException.class, call);
    }

    static void state(String what, Bandworld world, Callable<?> call) {
        refused(what, world, IllegalStateException.class, call);
    }

    static void unsupported(String what, Bandworld world, Callable<?> call) {
        refused(what, world, UnsupportedOperationException.class, call);
    }

    static void none(String what, Bandworld world, Callable<?> call) {
        refused(what, world, java.util.NoSuchElementException.class, call);
    }

    static void end() {
        System.out.println(made + " checks, " + wrong + " wrong");
        if (wrong != 0 || made == 0) {
            System.exit(1);
        }
    }
}
