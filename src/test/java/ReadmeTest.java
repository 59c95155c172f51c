import java.io.IOException;
import java.lang.reflect.Method;
import java.lang.reflect.Modifier;
import java.nio.charset.StandardCharsets;
import java.nio.file.Files;
import java.nio.file.Path;
import java.nio.file.Paths;
import java.util.HashSet;
import java.util.List;
import java.util.Set;

/** What README.md shows is as the class answers, and it shows each call of the face. */
public final class ReadmeTest {
    private static final String NEW_OBJECT = "Bandworld world = new Bandworld();";
    private static final String ON_OBJECT = "world.";
    private static final String ANSWERS = ";\\s+// ";

    public static void main(String[] args) throws IOException {
        List<String> page = readPage();
        callsAnswerAsShown(page);
        eachCallIsShown(page);
        commandsNameWhatIsThere(page);
        Check.end();
    }

    private static List<String> readPage() throws IOException {
        Path path = Paths.get("README.md");
        Check.yes("README.md stands where the tests run", Files.exists(path));
        return Files.readAllLines(path, StandardCharsets.UTF_8);
    }

    private static void callsAnswerAsShown(List<String> page) {
        Bandworld world = null;
        boolean isJava = false;
        for (String line : page) {
            if (line.startsWith("```")) {
                isJava = line.equals("```java");
                world = null;
            } else if (isJava && world == null) {
                Check.due("the first line of a part", line, NEW_OBJECT);
                world = new Bandworld();
            } else if (isJava) {
                answersAsShown(world, line);
            }
        }
    }

    private static void answersAsShown(Bandworld world, String line) {
        String[] halves = line.split(ANSWERS);
        boolean isCall = halves.length == 2 && line.startsWith(ON_OBJECT);
        Check.yes("README.md shows a call and its answer in: " + line, isCall);
        if (isCall) {
            String call = halves[0].substring(ON_OBJECT.length());
            Check.due("README.md's " + call, Play.call(world, call), halves[1]);
        }
    }

    private static void eachCallIsShown(List<String> page) {
        Set<String> shown = new HashSet<>();
        for (String line : page) {
            if (line.startsWith(ON_OBJECT) && line.indexOf('(') > 0) {
                shown.add(line.substring(ON_OBJECT.length(), line.indexOf('(')));
            }
        }
        for (Method method : Bandworld.class.getDeclaredMethods()) {
            if (Modifier.isPublic(method.getModifiers())) {
                Check.yes("README.md shows " + method.getName(), shown.contains(method.getName()));
            }
        }
    }

    private static void commandsNameWhatIsThere(List<String> page) {
        Check.yes("README.md tells how to run the tests", page.contains(".ci/run"));
        Check.yes(".ci/run is there", Files.isExecutable(Paths.get(".ci/run")));
        Check.yes("the class is there", Files.exists(Paths.get("src/main/java/Bandworld.java")));
    }
}
