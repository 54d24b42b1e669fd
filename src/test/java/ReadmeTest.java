import java.io.IOException;
import java.lang.reflect.InvocationTargetException;
import java.lang.reflect.Method;
import java.lang.reflect.Modifier;
import java.nio.file.Files;
import java.nio.file.Path;
import java.util.Map;
import java.util.Set;
import java.util.TreeMap;
import java.util.TreeSet;
import java.util.regex.Matcher;
import java.util.regex.Pattern;

/** The calls in README.md answer what stands behind them there, and README.md has every call of the face. */
public final class ReadmeTest {
    private static final Pattern CALL = Pattern.compile("shelf\\.(\\w+)\\((.*)\\); +// (-?\\w+).*");
    private static final Pattern ROW = Pattern.compile("\\| `(\\w+) (\\w+)\\((.*?)\\)` \\|.*");

    private static final Check CHECK = new Check();

    public static void main(String[] args) throws IOException, IllegalAccessException {
        Map<String, Method> face = face();
        Set<String> called = new TreeSet<>();
        Set<String> told = new TreeSet<>();
        PointShelf shelf = new PointShelf();
        for (String line : Files.readAllLines(Path.of("README.md"))) {
            Matcher call = CALL.matcher(line);
            Matcher row = ROW.matcher(line);
            if (call.matches()) {
                called.add(call.group(1));
                CHECK.due(line, call.group(3), answer(shelf, face.get(call.group(1)), call.group(2)));
            } else if (line.startsWith("shelf.")) {
                CHECK.due(line, "an answer behind the call", "none that can be read");
            } else if (row.matches() && !row.group(1).equals("new")) {
                told.add(row.group(1) + " " + row.group(2) + "(" + row.group(3).replaceAll(" \\w+(,|$)", "$1") + ")");
            }
        }
        CHECK.due("calls that are shown", face.keySet().toString(), called.toString());
        CHECK.due("calls that are told", signatures(face).toString(), told.toString());
        CHECK.end("ReadmeTest");
    }

    private static Map<String, Method> face() {
        Map<String, Method> face = new TreeMap<>();
        for (Method method : PointShelf.class.getDeclaredMethods()) {
            if (Modifier.isPublic(method.getModifiers())) {
                face.put(method.getName(), method);
            }
        }
        return face;
    }

    private static Set<String> signatures(Map<String, Method> face) {
        Set<String> all = new TreeSet<>();
        for (Method method : face.values()) {
            String types = "int, ".repeat(method.getParameterCount()).replaceAll(", $", "");
            all.add(method.getReturnType() + " " + method.getName() + "(" + types + ")");
        }
        return all;
    }

    /** What a call of the face answers: a number, "nothing", or the name of what it throws. */
    private static String answer(PointShelf shelf, Method method, String values) throws IllegalAccessException {
        if (method == null) {
            return "no such call";
        }
        String[] texts = values.isEmpty() ? new String[0] : values.split(", ");
        Object[] numbers = new Object[texts.length];
        for (int i = 0; i < texts.length; i++) {
            numbers[i] = Integer.decode(texts[i]);
        }
        try {
            Object answer = method.invoke(shelf, numbers);
            return answer == null ? "nothing" : answer.toString();
        } catch (InvocationTargetException e) {
            return e.getCause().getClass().getSimpleName();
        }
    }
}
