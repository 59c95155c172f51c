import java.util.concurrent.Callable;

/** Counts answers that are not as due; a test class ends with end(). */
final class Check {
    private static int made = 0;
    private static int wrong = 0;

    private Check() {
    }

    static void due(String what, Object got, Object want) {
        made++;
        if (!want.equals(got)) {
            wrong++;
            System.out.println(what + " answered " + got + ", due is " + want);
        }
    }

    static void yes(String what, boolean got) {
        due(what, got, true);
    }

    static void no(String what, boolean got) {
        due(what, got, false);
    }

    /** The call must throw exactly this class, and the world must look as before. */
    static void refused(String what, Bandworld world, Class<?> want, Callable<?> call) {
        String before = Look.at(world);
        Object got;
        try {
            got = call.call();
        } catch (Exception e) {
            got = e.getClass();
        }
        due(what, got, want);
        due(what + " changes nothing, which", Look.at(world), before);
    }

    static void index(String what, Bandworld world, Callable<?> call) {
        refused(what, world, IndexOutOfBoundsException.class, call);
    }

    static void argument(String what, Bandworld world, Callable<?> call) {
        refused(what, world, IllegalArgumentException.class, call);
    }

    static void state(String what, Bandworld world, Callable<?> call) {
        refused(what, world, IllegalStateException.class, call);
    }

    static void unsupported(String what, Bandworld world, Callable<?> call) {
        refused(what, world, UnsupportedOperationException.class, call);
    }

    static void none(String what, Bandworld world, Callable<?> call) {
        refused(what, world, java.util.NoSuchElementException.class, call);
    }

    static void end() {
        System.out.println(made + " checks, " + wrong + " wrong");
        if (wrong != 0 || made == 0) {
            System.exit(1);
        }
    }
}
