import java.lang.reflect.Method;
import java.lang.reflect.Modifier;
import java.nio.file.Files;
import java.nio.file.Path;
import java.util.Arrays;
import java.util.List;
import java.util.Set;
import java.util.TreeSet;
import java.util.regex.Matcher;
import java.util.regex.Pattern;

/** The calls that README.md shows answer as it says, and it shows each call of the face. */
public final class ReadmeTest {
    private static final Pattern CALL =
        Pattern.compile("x\\.(\\w+)\\(((?:-?\\d+(?:, )?)*)\\); +// (NO|-?\\d+)(?:: .+)?");
    private static final String MADE = "SurvivorPurse x = new SurvivorPurse();";

    private ReadmeTest() {
    }

    public static void main(String[] args) throws Exception {
        Set<String> shown = new TreeSet<>();
        SurvivorPurse x = null;
        for (String line : shownLines()) {
            Matcher call = CALL.matcher(line);
            if (line.equals(MADE)) {
                x = new SurvivorPurse();
            } else if (call.matches()) {
                shown.add(call.group(1));
                Due.due("README: " + line, answer(x, call.group(1), call.group(2)), due(call.group(3)));
            } else {
                Due.holds("README shows a call with its answer: " + line, line.isEmpty() || line.startsWith("// "));
            }
        }
        Due.holds("README shows all of " + face() + ", shown " + shown, shown.equals(face()));
        Due.end();
    }

    private static List<String> shownLines() throws Exception {
        List<String> lines = Files.readAllLines(Path.of("README.md"));
        int from = lines.indexOf("```java") + 1;
        List<String> behind = lines.subList(from, lines.size());
        return behind.subList(0, behind.indexOf("```"));
    }

    private static long due(String told) {
        return told.equals("NO") ? Due.NO : Long.parseLong(told);
    }

    private static long answer(SurvivorPurse x, String name, String numbers) throws Exception {
        String[] given = numbers.isEmpty() ? new String[0] : numbers.split(", ");
        Class<?>[] types = new Class<?>[given.length];
        Arrays.fill(types, int.class);
        Object[] values = new Object[given.length];
        for (int i = 0; i < given.length; i++) {
            values[i] = Integer.parseInt(given[i]);
        }
        return (Long) SurvivorPurse.class.getMethod(name, types).invoke(x, values);
    }

    private static Set<String> face() {
        Set<String> names = new TreeSet<>();
        for (Method m : SurvivorPurse.class.getDeclaredMethods()) {
            if (Modifier.isPublic(m.getModifiers())) {
                names.add(m.getName());
            }
        }
        return names;
    }
}
