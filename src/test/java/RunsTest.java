import java.io.IOException;
import java.lang.reflect.InvocationTargetException;
import java.lang.reflect.Method;
import java.nio.file.Files;
import java.nio.file.Path;
import java.nio.file.Paths;
import java.util.List;
import java.util.TreeSet;

/**
 * Long runs of mixed calls, which show how all parts of a minute work on one another. The answers in
 * src/test/runs were reckoned by two other programs (one for run00 to run09, one for the rest), written
 * from the document by the class's own author, who may have misread it in the same way each time.
 */
public final class RunsTest {
    public static void main(String[] args) throws IOException, ReflectiveOperationException {
        TreeSet<Path> files = new TreeSet<>();
        try (var all = Files.newDirectoryStream(Paths.get("src", "test", "runs"), "*.txt")) {
            all.forEach(files::add);
        }
        Check.due("there are runs", !files.isEmpty(), true);
        for (Path file : files) {
            play(file.getFileName().toString(), Files.readAllLines(file));
        }
        Check.end();
    }

    private static void play(String name, List<String> lines) throws ReflectiveOperationException {
        KeptHouse x = new KeptHouse(Long.parseLong(lines.get(0).substring("new ".length())));
        for (int i = 1; i < lines.size(); i++) {
            String[] sides = lines.get(i).split(" -> ");
            String got = answer(x, sides[0].split(" "));
            Check.due(name + ", line " + (i + 1) + ": " + sides[0] + " (" + got + ", not " + sides[1] + ")",
                    got.equals(sides[1]), true);
        }
    }

    private static String answer(KeptHouse x, String[] words) throws ReflectiveOperationException {
        Method method = find(words[0]);
        Class<?>[] types = method.getParameterTypes();
        Object[] values = new Object[types.length];
        for (int i = 0; i < types.length; i++) {
            int v = Integer.parseInt(words[i + 1]);
            values[i] = types[i] == boolean.class ? (Object) (v == 1) : (Object) v;
        }
        try {
            Object answer = method.invoke(x, values);
            if (answer == null) {
                return "0";
            }
            return answer instanceof Boolean ? (Boolean) answer ? "1" : "0" : answer.toString();
        } catch (InvocationTargetException e) {
            return e.getCause().getClass().getSimpleName();
        }
    }

    private static Method find(String name) throws NoSuchMethodException {
        for (Method method : KeptHouse.class.getMethods()) {
            if (method.getName().equals(name) && method.getDeclaringClass() == KeptHouse.class) {
                return method;
            }
        }
        throw new NoSuchMethodException(name);
    }
}
