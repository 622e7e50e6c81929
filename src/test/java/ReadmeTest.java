import java.lang.reflect.Method;
import java.lang.reflect.Modifier;
import java.nio.file.Files;
import java.nio.file.Path;
import java.util.Map;
import java.util.Set;
import java.util.TreeMap;
import java.util.TreeSet;
import java.util.regex.Matcher;
import java.util.regex.Pattern;

/** README.md says how to use the class: each call that stands there answers the number that is told behind it. */
public final class ReadmeTest {
    private static final String BEGINNING = "FastWhy x = new FastWhy();";
    private static final Pattern CALL = Pattern.compile("x\\.(\\w+)\\((.*?)\\); +// (-?\\d+)(: .+)?");
    private static int wrong;

    private static void due(String what, boolean holds) {
        if (!holds) {
            wrong++;
            System.out.println(what);
        }
    }

    public static void main(String[] args) throws Exception {
        Map<String, Method> face = new TreeMap<>();
        for (Method m : FastWhy.class.getDeclaredMethods()) {
            if (Modifier.isPublic(m.getModifiers())) {
                face.put(m.getName(), m);
            }
        }
        Set<String> called = new TreeSet<>();
        FastWhy x = null;
        boolean code = false;
        int calls = 0;
        for (String line : Files.readAllLines(Path.of("README.md"))) {
            if (line.startsWith("```")) {
                code = line.equals("```java");
            } else if (code && line.equals(BEGINNING)) {
                x = new FastWhy();
            } else if (code) {
                Matcher call = CALL.matcher(line);
                boolean isCall = x != null && call.matches() && face.containsKey(call.group(1));
                due("no call: " + line, isCall);
                if (isCall) {
                    calls++;
                    called.add(call.group(1));
                    Object got = face.get(call.group(1)).invoke(x, told(face.get(call.group(1)), call.group(2)));
                    due(line + " answered " + got, got.toString().equals(call.group(3)));
                }
            }
        }
        due("not each call of the class stands there, but " + called, called.equals(face.keySet()));
        System.out.println(calls + " calls of README.md, " + wrong + " not as it says");
        if (wrong != 0) {
            System.exit(1);
        }
    }

    /** Numbers, truths and characters as they are written in Java. */
    private static Object[] told(Method method, String text) {
        String[] words = text.isEmpty() ? new String[0] : text.split(", ");
        if (words.length != method.getParameterCount()) {
            throw new IllegalStateException(method.getName() + "(" + text + ")");
        }
        Object[] all = new Object[words.length];
        for (int i = 0; i < words.length; i++) {
            if (method.getParameterTypes()[i] == boolean.class) {
                all[i] = Boolean.valueOf(words[i]);
            } else if (words[i].startsWith("'")) {
                all[i] = (int) words[i].charAt(1);
            } else {
                all[i] = Integer.valueOf(words[i]);
            }
        }
        return all;
    }
}
