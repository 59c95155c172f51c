import java.lang.reflect.Constructor;
import java.lang.reflect.Field;
import java.lang.reflect.Method;
import java.lang.reflect.Modifier;
import java.util.ArrayList;
import java.util.List;
import java.util.TreeSet;

/** The public face is that of the document's code block, and nothing else shows (rule 1 of the language). */
public final class FaceTest {
    private static final String I = "IndexOutOfBoundsException";
    private static final String A = "IllegalArgumentException";
    private static final String S = "IllegalStateException";
    private static final String U = "UnsupportedOperationException";
    private static final String N = "NoSuchElementException";

    private static final String[] FACE = {
        "int setTemperature(int,int) " + I + " " + A,
        "int getTemperature(int) " + I,
        "int setVapour(int,int,int) " + I + " " + A,
        "int getVapour(int,int) " + I,
        "int getIce(int,int) " + I,
        "int deck(int) " + I + " " + N,
        "int setCore(int) " + A,
        "int getRadiated()",
        "float pressure(int) " + I,
        "int setTurning(int,int) " + I + " " + A,
        "int getTurning(int) " + I,
        "int getWind(int) " + I,
        "int getShear(int) " + I,
        "int stir(int,int,int) " + I + " " + A,
        "int setDrag(int) " + A,
        "int getDeep()",
        "int addStorm(int,int,int) " + I + " " + A + " " + S,
        "char nameStorm(int,char) " + I + " " + A + " " + U,
        "int findName(char) " + A + " " + N,
        "int getLongitude(int) " + I + " " + N,
        "int getSize(int) " + I + " " + N,
        "int getAge(int) " + I,
        "boolean isThere(int) " + I,
        "int livesIn(int) " + I + " " + N,
        "int burst(int,int) " + I + " " + A + " " + U + " " + S,
        "int strike(int,int,int) " + I + " " + A + " " + S,
        "int getWidth(int) " + I,
        "int scarTurns(int) " + I,
        "int turn(int) " + A,
        "int dropProbe(int,int,int,boolean) " + A + " " + S,
        "int tick(int) " + I + " " + U,
        "int sent(int) " + I,
        "int sentAt(int,int,char) " + I + " " + A + " " + N,
        "int lost(int) " + I,
        "int frame(int) " + A + " " + S,
        "int countSeen(int) " + I,
        "int placeIn(int,char) " + I + " " + A + " " + N,
        "float drift(char,int,int) " + I + " " + A + " " + N,
        "int save() " + S,
        "long load(int) " + I,
        "int happenings()",
        "char happening(int) " + N,
        "int happenedTo(int) " + N,
        "long checksum()",
        "float thereShare() ArithmeticException",
        "double meanWind()",
        "boolean isSound()",
    };

    public static void main(String[] args) {
        Check.yes("public and final", Modifier.isPublic(Bandworld.class.getModifiers())
                && Modifier.isFinal(Bandworld.class.getModifiers()));
        Check.due("package", Bandworld.class.getPackageName(), "");
        TreeSet<String> names = new TreeSet<>();
        List<String> found = new ArrayList<>();
        for (Method method : Bandworld.class.getDeclaredMethods()) {
            int modifiers = method.getModifiers();
            if (Modifier.isPublic(modifiers)) {
                found.add(written(method));
                names.add(method.getName());
                Check.no("static " + method.getName(), Modifier.isStatic(modifiers));
            }
        }
        Check.due("how many methods", found.size(), FACE.length);
        for (String line : FACE) {
            Check.yes("the face has " + line, found.contains(line));
        }
        for (Method method : Bandworld.class.getDeclaredMethods()) {
            boolean isPublic = Modifier.isPublic(method.getModifiers());
            Check.yes(method + " is public or private", isPublic || Modifier.isPrivate(method.getModifiers()));
            Check.yes(method + " has a name of its own", isPublic || !names.contains(method.getName()));
        }
        for (Field field : Bandworld.class.getDeclaredFields()) {
            Check.yes(field + " is private", Modifier.isPrivate(field.getModifiers()));
        }
        Constructor<?>[] constructors = Bandworld.class.getDeclaredConstructors();
        Check.due("constructors", constructors.length, 1);
        Check.yes("it is public", Modifier.isPublic(constructors[0].getModifiers()));
        Check.due("its parameters", constructors[0].getParameterCount(), 0);
        for (Class<?> inside : Bandworld.class.getDeclaredClasses()) {
            Check.yes(inside + " is static", Modifier.isStatic(inside.getModifiers()));
            Check.no(inside + " is public", Modifier.isPublic(inside.getModifiers())
                    || Modifier.isProtected(inside.getModifiers()));
        }
        Check.end();
    }

    private static String written(Method method) {
        StringBuilder text = new StringBuilder();
        text.append(method.getReturnType().getSimpleName()).append(' ').append(method.getName()).append('(');
        String comma = "";
        for (Class<?> parameter : method.getParameterTypes()) {
            text.append(comma).append(parameter.getSimpleName());
            comma = ",";
        }
        text.append(')');
        for (Class<?> thrown : method.getExceptionTypes()) {
            text.append(' ').append(thrown.getSimpleName());
        }
        return text.toString();
    }
}
