import java.lang.reflect.Constructor;
import java.lang.reflect.Field;
import java.lang.reflect.Method;
import java.lang.reflect.Modifier;
import java.nio.file.Files;
import java.nio.file.Path;
import java.util.Arrays;
import java.util.HashSet;
import java.util.Map;
import java.util.Random;
import java.util.Set;
import java.util.TreeMap;
import java.util.regex.Matcher;
import java.util.regex.Pattern;

/** The public face is the document's and no more, the source keeps to LANGUAGE.md, and no call throws. */
public final class FaceTest {
    private static final Map<String, Integer> FACE = face();

    private FaceTest() {
    }

    public static void main(String[] args) throws Exception {
        membersAreThoseOfTheDocument();
        nestedClassesKeepTheRules();
        sourceHasNoForbiddenWords();
        methodsAreShort();
        noCallThrows();
        Due.end();
    }

    private static Map<String, Integer> face() {
        Map<String, Integer> face = new TreeMap<>();
        String[] none = {"keep", "back"};
        String[] one = {"mean", "member", "proof", "close", "told"};
        String[] two = {"living", "foretell", "dearer", "heir", "set", "sell", "split", "share", "drew", "death",
            "of", "about"};
        String[] three = {"group", "pledge"};
        for (String name : none) face.put(name, 0);
        for (String name : one) face.put(name, 1);
        for (String name : two) face.put(name, 2);
        for (String name : three) face.put(name, 3);
        face.put("buy", 6);
        return face;
    }

    private static void membersAreThoseOfTheDocument() throws Exception {
        Class<?> c = SurvivorPurse.class;
        Due.holds("the class is public and final", Modifier.isPublic(c.getModifiers())
            && Modifier.isFinal(c.getModifiers()));
        Map<String, Integer> found = new TreeMap<>();
        for (Method m : c.getDeclaredMethods()) {
            if (Modifier.isPrivate(m.getModifiers())) {
                Due.holds("private " + m.getName() + " bears no public name", !FACE.containsKey(m.getName()));
                continue;
            }
            found.put(m.getName(), m.getParameterCount());
            Due.holds(m.getName() + " is public, not static, and answers long",
                Modifier.isPublic(m.getModifiers()) && !Modifier.isStatic(m.getModifiers())
                    && m.getReturnType() == long.class);
            for (Class<?> p : m.getParameterTypes()) {
                Due.holds(m.getName() + " takes int", p == int.class);
            }
        }
        Due.holds("the methods are " + FACE + ", found " + found, found.equals(FACE));
        Constructor<?>[] made = c.getDeclaredConstructors();
        Due.holds("one public constructor without parameters", made.length == 1
            && Modifier.isPublic(made[0].getModifiers()) && made[0].getParameterCount() == 0);
        for (Field f : c.getDeclaredFields()) {
            boolean isNo = f.getName().equals("NO");
            Due.holds("field " + f.getName(), isNo ? Modifier.isPublic(f.getModifiers())
                : Modifier.isPrivate(f.getModifiers()));
            Due.holds("a static field is final: " + f.getName(), !Modifier.isStatic(f.getModifiers())
                || Modifier.isFinal(f.getModifiers()));
        }
        Due.due("NO", c.getField("NO").getLong(null), Due.NO);
    }

    private static void nestedClassesKeepTheRules() {
        Class<?>[] inside = SurvivorPurse.class.getDeclaredClasses();
        Due.holds("at most twelve classes", inside.length <= 11);
        for (Class<?> c : inside) {
            Due.holds(c.getName() + " is static and not public", Modifier.isStatic(c.getModifiers())
                && !Modifier.isPublic(c.getModifiers()) && !Modifier.isProtected(c.getModifiers()));
            Due.holds(c.getName() + " has at most twenty fields", c.getDeclaredFields().length <= 20);
            for (Method m : c.getDeclaredMethods()) {
                Due.holds(c.getName() + "." + m.getName() + " has at most seven parameters",
                    m.getParameterCount() <= 7);
                Due.holds(c.getName() + "." + m.getName() + " bears no public name", !FACE.containsKey(m.getName()));
            }
        }
    }

    private static void sourceHasNoForbiddenWords() throws Exception {
        String source = Files.readString(Path.of("src/main/java/SurvivorPurse.java"));
        String code = source.replaceAll("(?s)/\\*.*?\\*/", " ").replaceAll("//[^\n]*", " ");
        Set<String> words = new HashSet<>();
        Matcher m = Pattern.compile("[A-Za-z_]+").matcher(code);
        while (m.find()) {
            words.add(m.group());
        }
        for (String word : Arrays.asList("throw", "throws", "try", "catch", "finally", "synchronized", "assert",
            "package", "double", "float", "Random", "Thread", "Object", "equals", "hashCode", "toString", "var")) {
            Due.holds("no '" + word + "' in the source", !words.contains(word));
        }
        Due.holds("no lambda and no method reference", !code.contains("->") && !code.contains("::"));
        Due.holds("no Exact function", !code.contains("Exact("));
        Matcher imports = Pattern.compile("import ([^;]+);").matcher(code);
        while (imports.find()) {
            Due.holds("import " + imports.group(1), imports.group(1).equals("java.util.Arrays"));
        }
        for (char sign : source.toCharArray()) {
            if (sign > 126) {
                Due.holds("signs of the source are plain", false);
            }
        }
    }

    /** A method of the class itself stands 4 signs from the left, one of a class inside 8. */
    private static void methodsAreShort() throws Exception {
        String[] lines = Files.readString(Path.of("src/main/java/SurvivorPurse.java")).split("\n");
        Pattern head = Pattern.compile("( {4}| {8})[A-Za-z].*\\) \\{");
        int found = 0;
        for (int from = 0; from < lines.length; from++) {
            Matcher m = head.matcher(lines[from]);
            if (!m.matches()) {
                continue;
            }
            found++;
            int to = from;
            while (to < lines.length && !lines[to].equals(m.group(1) + "}")) {
                to++;
            }
            Due.holds("at most sixty lines: " + lines[from].trim(), to - from < 60);
        }
        Due.holds("the source has methods, each is looked at", found > FACE.size());
    }

    private static void noCallThrows() throws Exception {
        int[] odd = {Integer.MIN_VALUE, Integer.MIN_VALUE + 1, -111, -110, -2, -1, 0, 0, 0, 1, 1, 2, 3, 5, 6, 12, 23,
            24, 39, 40, 59, 60, 61, 110, 111, 1000, 10000, 100000, 100000000, 1000000000, Integer.MAX_VALUE};
        Method[] methods = SurvivorPurse.class.getDeclaredMethods();
        Random dice = new Random(7);
        for (int run = 0; run < 400; run++) {
            SurvivorPurse x = new SurvivorPurse();
            for (int call = 0; call < 1000; call++) {
                Method m = methods[dice.nextInt(methods.length)];
                if (!Modifier.isPublic(m.getModifiers())) {
                    continue;
                }
                Object[] given = new Object[m.getParameterCount()];
                for (int i = 0; i < given.length; i++) {
                    given[i] = odd[dice.nextInt(odd.length)];
                }
                try {
                    m.invoke(x, given);
                } catch (java.lang.reflect.InvocationTargetException e) {
                    Due.holds(m.getName() + Arrays.toString(given) + " threw " + e.getCause(), false);
                    return;
                }
            }
            Due.due("each coin is somewhere", x.told(1) + x.told(2) + x.told(3) + x.told(4) + x.told(5), x.told(7));
        }
    }
}
