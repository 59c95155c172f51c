import java.lang.reflect.InvocationTargetException;
import java.lang.reflect.Method;
import java.util.ArrayList;
import java.util.Comparator;
import java.util.List;
import java.util.Random;

/**
 * Long runs of calls, mild and wild ones, on the class and on the document's second reading in PlainGiant:
 * each answer and each exception's class must be the same, and nothing else may ever come out.
 */
public final class WildCallsTest {
    private static final int RUNS = 600;
    private static final int CALLS = 512;
    private static final int[] WILD = {
        Integer.MIN_VALUE, Integer.MIN_VALUE + 1, -3001, -1, 0, 1, 3001, 3600, 20001, Integer.MAX_VALUE - 1,
        Integer.MAX_VALUE,
    };
    // Called more often than others: what lets things happen, and what tells of them.
    private static final String OFTEN = "turn turn turn turn tick tick tick setTurning stir stir setTemperature"
            + " setVapour addStorm addStorm nameStorm nameStorm livesIn getSize drift drift drift placeIn sentAt sentAt"
            + " burst findName";
    // Put off nine times of ten: what would use up the room too early, or end what has begun.
    private static final List<String> SELDOM = List.of("load", "save", "frame", "dropProbe", "strike", "setDrag",
            "setCore", "pressure", "getTurning", "getShear", "getWind", "meanWind", "happening", "happenedTo");

    public static void main(String[] args) {
        List<Method> methods = new ArrayList<>();
        for (Method method : Bandworld.class.getMethods()) {
            if (method.getDeclaringClass() == Bandworld.class) {
                methods.add(method);
            }
        }
        methods.sort(Comparator.comparing(Method::getName));
        List<Method> often = new ArrayList<>(methods);
        for (String name : OFTEN.split(" ")) {
            methods.stream().filter(m -> m.getName().equals(name)).forEach(often::add);
        }
        for (int run = 0; run < RUNS; run++) {
            oneRun(run, often);
        }
        Check.end();
    }

    private static void oneRun(int run, List<Method> methods) {
        Random random = new Random(run);
        Bandworld world = new Bandworld();
        PlainGiant giant = new PlainGiant();
        boolean isRestless = run % 3 == 0;
        boolean isCrowded = run % 2 == 0;
        boolean isWild = run % 5 == 0;
        for (int call = 0; call < CALLS; call++) {
            Method method = methods.get(random.nextInt(methods.size()));
            if (SELDOM.contains(method.getName()) && random.nextInt(10) != 0) {
                method = methods.get(random.nextInt(methods.size()));
            }
            Object[] values = new Object[method.getParameterCount()];
            for (int i = 0; i < values.length; i++) {
                Class<?> type = method.getParameterTypes()[i];
                if (type == int.class) {
                    values[i] = number(random, method.getName(), i, isRestless, isCrowded, isWild);
                } else if (type == char.class) {
                    values[i] = letter(random, method.getName());
                } else {
                    values[i] = random.nextBoolean();
                }
            }
            String what = "run " + run + ", call " + call + ": " + method.getName() + List.of(values);
            String due = answer(giant, method, values);
            Check.due(what, answer(world, method, values), due);
        }
    }

    private static int number(Random random, String name, int place, boolean isRestless, boolean isCrowded,
            boolean isWild) {
        if (isWild && random.nextInt(4) == 0) {
            return WILD[random.nextInt(WILD.length)];
        }
        switch (name + place) {
            case "setTemperature0": case "getTemperature0": case "setVapour0": case "getVapour0": case "getIce0":
            case "pressure0":
                return random.nextInt(40) == 0 ? 10 : random.nextInt(10);
            case "setTemperature1":
                return 49 + random.nextInt(random.nextInt(4) == 0 ? 952 : 300);
            case "setVapour1": case "getVapour1": case "getIce1": case "deck0":
                return random.nextInt(40) == 0 ? 3 : random.nextInt(3);
            case "setVapour2":
                return random.nextInt(random.nextBoolean() ? 20002 : 30);
            case "setCore0":
                return random.nextInt(11);
            case "setTurning1":
                return isRestless ? random.nextInt(6003) - 3001 : random.nextInt(801) - 400;
            case "stir2":
                return isRestless ? random.nextInt(3002) : random.nextInt(200);
            case "setDrag0":
                return random.nextInt(52);
            case "addStorm0": case "burst0": case "strike0":
                return isCrowded ? 4 + random.nextInt(2) : random.nextInt(13);
            case "addStorm1": case "burst1": case "strike1": case "frame0":
                return isCrowded ? random.nextInt(900) : random.nextInt(3601);
            case "stir0":
                return random.nextInt(12);
            case "stir1":
                return random.nextInt(4) == 0 ? random.nextInt(12) : 4 + random.nextInt(3);
            case "addStorm2":
                return 9 + random.nextInt(random.nextBoolean() ? 393 : 20);
            case "strike2":
                return random.nextInt(102);
            case "turn0":
                return random.nextInt(random.nextInt(12) == 0 ? 202 : 4);
            case "dropProbe0": case "dropProbe1": case "dropProbe2":
                return random.nextInt(random.nextInt(3) == 0 && place == 1 ? 62 : 4);
            case "sentAt1":
                return random.nextInt(random.nextInt(3) == 0 ? 20 : 4) - random.nextInt(2);
            case "happening0": case "happenedTo0":
                return random.nextInt(33) - 1;
            case "load0":
                return random.nextInt(4);
            case "tick0": case "sent0": case "lost0": case "sentAt0":
                return random.nextInt(random.nextInt(3) == 0 ? 5 : 2) - random.nextInt(2);
            case "countSeen0": case "placeIn0": case "drift1": case "drift2":
                return random.nextInt(random.nextInt(10) == 0 ? 7 : 4);
            default:
                return random.nextInt(random.nextBoolean() ? 13 : 4);
        }
    }

    private static char letter(Random random, String name) {
        if (name.equals("sentAt")) {
            return "ltiltix".charAt(random.nextInt(7));
        }
        return random.nextInt(12) == 0 ? (char) random.nextInt(65536) : (char) ('A' + random.nextInt(3));
    }

    private static String answer(Object object, Method face, Object[] values) {
        try {
            Method method = object.getClass() == Bandworld.class ? face
                    : object.getClass().getMethod(face.getName(), face.getParameterTypes());
            return String.valueOf(method.invoke(object, values));
        } catch (InvocationTargetException e) {
            return e.getCause().getClass().getName();
        } catch (ReflectiveOperationException e) {
            return "no such call: " + e;
        }
    }
}
