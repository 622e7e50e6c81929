import java.lang.reflect.Constructor;
import java.lang.reflect.Field;
import java.lang.reflect.Member;
import java.lang.reflect.Method;
import java.lang.reflect.Modifier;
import java.nio.file.Files;
import java.nio.file.Path;
import java.util.ArrayList;
import java.util.List;
import java.util.Map;
import java.util.Set;
import java.util.TreeMap;
import java.util.TreeSet;
import java.util.regex.Matcher;
import java.util.regex.Pattern;

/** The rules of LANGUAGE.md that can be seen from the text of FastWhy.java and from its compiled classes. */
public final class LanguageTest {
    private static final String[] FACE = {
        "int program()", "int line(int,int,int,int,int)", "int change(int,int,int,int,int,int)", "int build(int,int)",
        "int setting(int,int,int,int)", "int price(int,int,int)", "int cache(int,int,int,int)",
        "int guess(int,int,int)", "int noise(int,int,int,int,boolean)", "int run(int,int,int,int,int,boolean)",
        "int of(int,int)", "int plain(int,int,int,int)", "int figure(int,int,int,int,int)",
        "int pair(int,int,int,int,int,int,boolean)", "int difference(int)", "int stand()", "int odds(int)",
        "int look(int)", "int sure(int,int)", "int answer()", "int step(int,int,int,int,int,int)",
        "int back(int,int,int,int,int,int)", "long with(int,int)", "int keep(int,boolean)",
        "long fit(int,int,int,int,int)", "long foretell(int,int,int,int,int,int,int)", "int seek(int,int,int,int)",
        "int write(int)", "int erase()", "int fault()", "int rung(int,int,int)", "int forge(int,int)", "int check()",
        "int image(int)", "int from(int)", "int count(int)", "long digest()"};
    /** What is called of the library; LANGUAGE.md lists more that may be put here when it is needed. */
    private static final Set<String> LIBRARY = Set.of("java.lang.Object.<init>", "java.lang.Integer.bitCount",
            "java.lang.Math.abs", "java.lang.Math.max", "java.lang.Math.min", "java.lang.String.charAt",
            "java.lang.String.length", "java.lang.System.arraycopy", "java.util.Arrays.fill");
    /** Of the library: no constant (javac leaves no trace of Long.MAX_VALUE), and no other class. */
    private static final Set<String> LIBRARY_WORDS = Set.of("Integer.bitCount", "Math.abs", "Math.max", "Math.min",
            "System.arraycopy", "Arrays.fill");
    private static final int MOST_LINES_OF_A_METHOD = 60;
    private static final int MOST_DEEP = 8;
    private static final int MOST_OPEN_CALLS = 300;
    private static int wrong;

    private static void due(String rule, boolean holds) {
        if (!holds) {
            wrong++;
            System.out.println("not kept: " + rule);
        }
    }

    public static void main(String[] args) throws Exception {
        String text = Files.readString(Path.of("src/main/java/FastWhy.java"));
        face();
        classes();
        words(text);
        compiled();
        System.out.println(wrong == 0 ? "the rules are kept" : wrong + " rules are not kept");
        if (wrong != 0) {
            System.exit(1);
        }
    }

    private static String heading(Method m) {
        StringBuilder all = new StringBuilder(m.getReturnType().getName()).append(' ').append(m.getName()).append('(');
        for (Class<?> type : m.getParameterTypes()) {
            all.append(all.charAt(all.length() - 1) == '(' ? "" : ",").append(type.getName());
        }
        return all.append(')').toString();
    }

    private static void face() {
        due("1: public and final", FastWhy.class.getModifiers() == (Modifier.PUBLIC | Modifier.FINAL));
        Set<String> seen = new TreeSet<>();
        for (Method m : FastWhy.class.getDeclaredMethods()) {
            if (Modifier.isPublic(m.getModifiers())) {
                seen.add(heading(m));
            } else {
                due("1: private " + m.getName(), Modifier.isPrivate(m.getModifiers()));
            }
        }
        due("1: the face", seen.equals(new TreeSet<>(List.of(FACE))));
        Set<String> constants = new TreeSet<>();
        for (Field f : FastWhy.class.getDeclaredFields()) {
            if (!Modifier.isPrivate(f.getModifiers())) {
                constants.add(f.getName());
            }
        }
        due("1: the constants", constants.equals(new TreeSet<>(List.of("NONE", "BAD", "NO", "FULL"))));
        due("1: one constructor", FastWhy.class.getDeclaredConstructors().length == 1);
    }

    private static void classes() {
        Set<String> names = new TreeSet<>();
        for (Method m : FastWhy.class.getDeclaredMethods()) {
            if (Modifier.isPublic(m.getModifiers())) {
                names.add(m.getName());
            }
        }
        List<Class<?>> all = new ArrayList<>(List.of(FastWhy.class.getDeclaredClasses()));
        due("11: some twelve classes", all.size() < 12);
        for (Class<?> inside : all) {
            int bits = inside.getModifiers();
            due("1: " + inside.getName() + " is static and not public",
                    Modifier.isStatic(bits) && !Modifier.isPublic(bits) && !Modifier.isProtected(bits));
            due("2: no class in " + inside.getName(), inside.getDeclaredClasses().length == 0);
            for (Method m : inside.getDeclaredMethods()) {
                due("1: " + inside.getName() + "." + m.getName() + " bears a public name", !names.contains(m.getName()));
            }
        }
        all.add(FastWhy.class);
        for (Class<?> one : all) {
            int fields = 0;
            for (Field f : one.getDeclaredFields()) {
                fields += Modifier.isStatic(f.getModifiers()) ? 0 : 1;
                due("5: " + f, !Modifier.isStatic(f.getModifiers()) || Modifier.isFinal(f.getModifiers()));
                due("3: the type of " + f, isType(f.getType()));
            }
            due("11: some twenty fields of " + one.getName(), fields <= 20);
            for (Method m : one.getDeclaredMethods()) {
                parameters(m, m.getParameterCount());
            }
            for (Constructor<?> c : one.getDeclaredConstructors()) {
                parameters(c, c.getParameterCount());
            }
        }
    }

    /** Numbers, truths, rows of these, texts, own classes and rows of those. */
    private static boolean isType(Class<?> type) {
        Class<?> bare = type.isArray() ? type.getComponentType() : type;
        return bare.isPrimitive() || type == String.class || bare.getEnclosingClass() == FastWhy.class;
    }

    private static void parameters(Member member, int many) {
        due("11: seven parameters of " + member.getName(), many <= 7);
        due("3: no lambda: " + member.getName(), !member.getName().contains("lambda"));
    }

    private static void words(String text) {
        String bare = text.replaceAll("(?s)/\\*.*?\\*/", "").replaceAll("//[^\n]*", "")
                .replaceAll("\"[^\"\n]*\"", "\"\"").replaceAll("'.'", "' '");
        String[] never = {"throw", "throws", "try", "catch", "synchronized", "assert", "volatile", "native", "var",
            "yield", "Object", "Exception", "HashMap", "Map", "Set", "Collections", "Stream", "System.out",
            "System.nanoTime", "Random", "Thread", "hashCode", "toString", "protected", "Exact"};
        for (String word : never) {
            due("6: the word " + word, !Pattern.compile("\\b" + Pattern.quote(word) + "\\b").matcher(bare).find());
        }
        due("2: no arrow", !bare.contains("->"));
        due("2: no method reference", !bare.contains("::"));
        due("no package", !Pattern.compile("(?m)^package ").matcher(bare).find());
        Matcher imports = Pattern.compile("(?m)^import (.*);$").matcher(bare);
        while (imports.find()) {
            due("4: import " + imports.group(1), imports.group(1).equals("java.util.Arrays"));
        }
        for (int i = 0; i < text.length(); i++) {
            if (text.charAt(i) > 126) {
                due("3: a sign beyond 126 at " + i, false);
            }
        }
        Matcher dots = Pattern.compile("(?<![\\w.])([A-Z]\\w*[a-z]\\w*)\\.\\w+").matcher(bare);
        while (dots.find()) {
            due("4: " + dots.group(), LIBRARY_WORDS.contains(dots.group()) || dots.group().equals("java.util.Arrays"));
        }
        methods(bare);
        rows(bare);
    }

    /** What javac has made of it: calls of the library, exceptions, how deep calls go. */
    private static void compiled() throws Exception {
        Map<String, Set<String>> calls = new TreeMap<>();
        List<Class<?>> all = new ArrayList<>(List.of(FastWhy.class.getDeclaredClasses()));
        all.add(FastWhy.class);
        for (Class<?> one : all) {
            Compiled read = new Compiled(one);
            calls.putAll(read.calls);
            due("4: fields of the library in " + one.getName() + ": " + read.fields, read.fields.isEmpty());
            due("6: no throw, no catch in " + one.getName(), !read.throwsOrCatches);
            due("2, 10: nothing that is joined as it runs in " + one.getName(), !read.dynamic);
        }
        due("all methods were read", calls.containsKey("FastWhy.digest") && calls.get("FastWhy.digest").size() > 1);
        for (Map.Entry<String, Set<String>> method : calls.entrySet()) {
            for (String called : method.getValue()) {
                due("4: " + method.getKey() + " calls " + called, calls.containsKey(called) || LIBRARY.contains(called));
            }
        }
        Set<String> again = inCircles(calls);
        for (String method : calls.keySet()) {
            int deep = deep(method, calls, again);
            due("11: eight deep: " + method + " " + deep, deep <= MOST_DEEP);
        }
        for (String method : again) {
            due("8: a recursion is the reading of RULES: " + method, method.startsWith("FastWhy$Reader."));
        }
        // one circle for each ( that may be open, one with none open, and what is ahead of and behind them
        due("8: calls open at once", again.size() * 9 + 2 * MOST_DEEP < MOST_OPEN_CALLS);
    }

    /** Those that may come to themselves again. */
    private static Set<String> inCircles(Map<String, Set<String>> calls) {
        Set<String> all = new TreeSet<>();
        for (String method : calls.keySet()) {
            Set<String> seen = new TreeSet<>();
            List<String> next = new ArrayList<>(calls.get(method));
            while (!next.isEmpty()) {
                String one = next.remove(next.size() - 1);
                if (seen.add(one)) {
                    next.addAll(calls.getOrDefault(one, Set.of()));
                }
            }
            if (seen.contains(method)) {
                all.add(method);
            }
        }
        return all;
    }

    private static int deep(String method, Map<String, Set<String>> calls, Set<String> again) {
        int most = 0;
        for (String called : calls.getOrDefault(method, Set.of())) {
            if (!again.contains(called)) {
                most = Math.max(most, deep(called, calls, again));
            }
        }
        return most + 1;
    }

    private static void methods(String bare) {
        String[] lines = bare.split("\n");
        Pattern head = Pattern.compile("^( {4}| {8})(private |public |static |final )*[\\w\\[\\]]+ \\w+\\(.*");
        int from = -1;
        for (int i = 0; i < lines.length; i++) {
            if (head.matcher(lines[i]).matches()) {
                from = i;
            }
            if (from >= 0 && (lines[i].equals("    }") || lines[i].equals("        }"))) {
                due("11: a short method: " + lines[from].trim(), i - from < MOST_LINES_OF_A_METHOD);
            }
        }
    }

    /** All rows are made as the object is made: 'new' stands in a field or a constructor alone. */
    private static void rows(String bare) {
        for (String line : bare.split("\n")) {
            if (line.contains("new ")) {
                boolean field = Pattern.matches(" {4,8}(private |final )*[\\w\\[\\]]+ \\w+ = new .*;", line);
                boolean filled = Pattern.matches(" {12,16}(images|machines)\\[i\\] = new \\w+\\(\\);", line);
                due("12: made once: " + line.trim(), field || filled);
            }
        }
    }
}
