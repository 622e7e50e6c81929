import java.lang.reflect.Method;
import java.util.ArrayList;
import java.util.Arrays;
import java.util.HashMap;
import java.util.List;
import java.util.Map;
import java.util.Random;

/** Runs of calls by lots on a FastWhy and on the Model: each answer is to be the same. */
public final class ModelTest {
    private static final int RUNS = 400;
    private static final int CALLS = 512;
    private static final String[] LATER = {
        "run", "run", "run", "run", "run", "run", "pair", "pair", "pair", "of", "of", "plain", "plain", "figure", "figure",
        "difference", "odds", "odds", "look", "look", "sure", "answer", "answer", "answer", "step", "step", "step",
        "back", "back", "with", "keep", "keep", "fit", "foretell", "foretell", "seek", "rules", "rules", "rung",
        "rung", "forge", "check", "check", "image", "from", "count", "digest", "price", "cache", "guess", "noise",
        "program", "line", "change", "build", "setting", "write", "erase", "fault", "stand"};

    private final Map<String, Method> real = new HashMap<>();
    private final Map<String, Method> modelled = new HashMap<>();
    private final Map<String, Integer> answered = new HashMap<>();
    private Random lots;
    private FastWhy fast;
    private Model model;
    private final List<String> told = new ArrayList<>();
    private int wrong;

    public static void main(String[] args) throws Exception {
        ModelTest test = new ModelTest();
        int runs = args.length > 0 ? Integer.parseInt(args[0]) : RUNS;
        for (int i = 0; i < runs && test.wrong == 0; i++) {
            test.oneRun(i);
        }
        if (args.length > 1) {
            System.out.println(new java.util.TreeMap<>(test.answered));
        }
        System.out.println(test.wrong == 0 ? runs + " runs of calls answer as the model" : "an answer is not as due");
        if (test.wrong != 0) {
            System.exit(1);
        }
    }

    ModelTest() {
        for (Method m : FastWhy.class.getDeclaredMethods()) {
            if (java.lang.reflect.Modifier.isPublic(m.getModifiers())) real.put(m.getName(), m);
        }
        for (Method m : Model.class.getDeclaredMethods()) {
            if (real.containsKey(m.getName()) && java.lang.reflect.Modifier.isPublic(m.getModifiers())) {
                modelled.put(m.getName(), m);
            }
        }
        if (real.size() != 37 || modelled.size() != 37) {
            throw new IllegalStateException("37 methods are due");
        }
    }

    private void oneRun(int seed) throws Exception {
        // Seeds that are near one another begin with like lots, so they are spread.
        lots = new Random(seed * 0x9E3779B97F4A7C15L);
        fast = new FastWhy();
        model = new Model();
        told.clear();
        lay();
        fill();
        // What empties or goes back is left out of some runs, so that these come to what is FULL.
        boolean[] left = {lots.nextBoolean(), lots.nextBoolean(), lots.nextBoolean()};
        int most = lots.nextInt(4) == 0 ? 13 : LATER.length;
        while (told.size() < CALLS && wrong == 0) {
            String name = LATER[lots.nextInt(most)];
            if (name.equals("stand") && left[0] || name.equals("from") && left[1] || name.equals("sure") && left[2]) {
                continue;
            }
            if (name.equals("rules")) {
                rules();
            } else {
                call(name, wilder(args(name)));
            }
        }
        call("digest");
    }

    /** What lies there to begin with; sometimes with two IMAGES that have unlike things under the same numbers. */
    private void lay() throws Exception {
        if (lots.nextInt(4) == 0) {
            call("image", 0);
            layOnce();
            call("image", 1);
            call("from", 0);
            layOnce();
            call("image", 0);
        } else {
            layOnce();
        }
    }

    /** PROGRAMS, CHANGES, BUILDS, SETTINGS. */
    private void layOnce() throws Exception {
        int programs = 1 + lots.nextInt(3);
        for (int p = 0; p < programs; p++) {
            call("program");
            if (lots.nextInt(4) == 0) {
                int lines = lots.nextInt(12);
                for (int i = 0; i < lines; i++) call("line", line(p));
            } else {
                loop(p);
            }
        }
        int changes = lots.nextInt(8);
        for (int i = 0; i < changes; i++) call("change", args("change"));
        int builds = 1 + lots.nextInt(8);
        for (int i = 0; i < builds; i++) call("build", args("build"));
        int settings = 1 + lots.nextInt(4);
        for (int i = 0; i < settings; i++) call("setting", args("setting"));
        for (int i = 0; i < 4; i++) {
            call("cache", args("cache"));
            call("noise", args("noise"));
        }
    }

    /** Some runs come to what is FULL of one kind and a little beyond. */
    private void fill() throws Exception {
        switch (lots.nextInt(12)) {
            case 0: again("line", 44, model.count(0)); break;
            case 1: again("build", 40, 0); break;
            case 2: again("change", 20, 0); break;
            case 3: for (int i = 1; i <= 17; i++) if (lots.nextInt(4) > 0) call("look", i); break;
            case 4: for (int i = 0; i < 43; i++) call("write", sign()); break;
            case 5: again("setting", 12, 0); break;
            default: break;
        }
    }

    private void again(String name, int times, int program) throws Exception {
        if (name.equals("line")) call("program");
        for (int i = 0; i < times; i++) call(name, name.equals("line") ? line(program) : args(name));
    }

    private void loop(int p) throws Exception {
        call("line", p, 0, 1, 1 + lots.nextInt(2), 0);
        call("line", p, 0, 0, lots.nextInt(80), 0);
        call("line", p, 4, 2, lots.nextInt(2) * 4, 0);
        call("line", p, lots.nextInt(2) == 0 ? 1 : 3, 3, 3, 2);
        call("line", p, 5, 3, 4, 0);
        call("line", p, 2, 0, 0, 1);
        if (lots.nextInt(3) == 0) call("line", p, 6, 2, to(2, 8), 0);
        if (lots.nextBoolean()) call("line", p, 6, 5, 2, 0);
        call("line", p, 6, 0, 2, 0);
        if (lots.nextBoolean()) call("line", p, 7, 99, -1, 1234);
    }

    private int to(int low, int high) {
        return low + lots.nextInt(high - low + 1);
    }

    /** Mostly one of those that are there, sometimes one beyond. */
    private int number(int many) {
        if (many == 0 || lots.nextInt(60) == 0) {
            int[] off = {-1, many, many + 1, Integer.MIN_VALUE, Integer.MAX_VALUE};
            return off[lots.nextInt(off.length)];
        }
        return lots.nextInt(many);
    }

    /** Now and then one number is any int at all: no call may fail to answer it. */
    private int[] wilder(int[] args) {
        if (args.length > 0 && lots.nextInt(25) == 0) {
            int[] edges = {Integer.MIN_VALUE, Integer.MIN_VALUE + 1, -1, 0, 1, 31, 32, 63, 64, Integer.MAX_VALUE};
            args[lots.nextInt(args.length)] = lots.nextBoolean() ? lots.nextInt() : edges[lots.nextInt(edges.length)];
        }
        return args;
    }

    private int ranged(int low, int high) {
        int kind = lots.nextInt(50);
        if (kind == 0) return low - 1;
        if (kind == 1) return high + 1;
        if (kind < 5) return low;
        if (kind < 8) return high;
        return to(low, high);
    }

    private int[] line(int p) {
        int act = number(8);
        int b = act == 0 ? to(-3, 9) : act == 6 ? ranged(0, 12) : number(8);
        return new int[] {p, act, number(8), lots.nextInt(60) == 0 ? to(-2000, 2000) : b, number(8)};
    }

    private int[] change() {
        int p = number(model.count(0));
        int[] l = line(p);
        return new int[] {p, ranged(0, 8), l[1], l[2], l[3], l[4]};
    }

    private int bits() {
        int n = model.count(1);
        int bits = 0;
        for (int i = 0; i < n; i++) if (lots.nextInt(3) == 0) bits |= 1 << i;
        return lots.nextInt(40) == 0 ? to(-5, 1 << n) : bits;
    }

    private int builds() {
        return number(model.count(2));
    }

    private int settings() {
        return number(model.count(3));
    }

    private int lot() {
        return lots.nextBoolean() ? lots.nextInt() : to(-50, 50);
    }

    /** Machine 0 is chosen often, so that figures come together. */
    private int machine() {
        return lots.nextInt(3) > 0 ? 0 : number(4);
    }

    private int[] args(String name) {
        switch (name) {
            case "line": return line(number(model.count(0)));
            case "change": return change();
            case "build": return new int[] {number(model.count(0)), bits()};
            case "setting": return new int[] {ranged(-1000, 1000), to(-2, 5), to(-2, 5), ranged(-1000, 1000)};
            case "price": return new int[] {machine(), number(8), lots.nextBoolean() ? to(0, 4) : ranged(0, 50)};
            case "cache": return new int[] {machine(), ranged(1, 16), ranged(1, 8),
                lots.nextBoolean() ? to(0, 12) : ranged(0, 200)};
            case "guess": return new int[] {machine(), ranged(1, 16), lots.nextBoolean() ? to(0, 12) : ranged(0, 100)};
            case "noise": return new int[] {machine(), ranged(0, 20), ranged(0, 1000), lots.nextBoolean() ? to(0, 4)
                : ranged(0, 100), to(0, 1)};
            case "run": return new int[] {builds(), machine(), settings(), lot(), ranged(0, 23), to(0, 1)};
            case "of": return new int[] {number(model.count(4)), ranged(0, 13)};
            case "plain": return new int[] {builds(), machine(), settings(), ranged(0, 5)};
            case "figure": return new int[] {builds(), machine(), settings(), ranged(0, 200), ranged(0, 3)};
            case "pair": return new int[] {builds(), builds(), machine(), settings(), lot(), ranged(0, 23), to(0, 1)};
            case "difference": return new int[] {lots.nextInt(4) == 0 ? lots.nextInt() : to(-1, 17)};
            case "odds": return new int[] {to(0, 1) + (lots.nextInt(30) == 0 ? 2 : 0)};
            case "look": return new int[] {lots.nextBoolean() ? to(1, 6) : ranged(1, 16)};
            case "sure": return new int[] {lots.nextBoolean() ? to(2, 5) : ranged(2, 1000),
                lots.nextBoolean() ? to(0, 90) : ranged(0, 10000)};
            case "step": return step();
            case "back": return new int[] {builds(), builds(), machine(), settings(),
                lots.nextBoolean() ? to(0, 30) : ranged(0, 100000), ranged(0, 2)};
            case "with": return new int[] {machine(), ranged(0, 4)};
            case "keep": return new int[] {number(model.count(4)), to(0, 1)};
            case "fit": return counts(new int[] {machine(), 0, 0, 0, ranged(0, 4)}, 1);
            case "foretell": return counts(new int[] {builds(), machine(), settings(), 0, 0, 0, ranged(0, 2)}, 3);
            case "seek": return new int[] {builds(), machine(), lots.nextBoolean() ? to(0, 4000) : ranged(0, 1000000),
                ranged(0, 1)};
            case "write": return new int[] {lots.nextInt(9) == 0 ? to(-2, 129) : sign()};
            case "rung": return new int[] {machine(), settings(), ranged(0, 200)};
            case "forge": return new int[] {number(model.count(4)), lots.nextBoolean() ? to(0, 500) : ranged(0, 10000000)};
            case "image": return new int[] {number(2)};
            case "from": return new int[] {number(2)};
            case "count": return new int[] {ranged(0, 8)};
            default: return new int[0];
        }
    }

    private int[] step() {
        int a = builds(), b = builds();
        boolean turned = lots.nextInt(20) == 0;
        return new int[] {turned ? Math.max(a, b) : Math.min(a, b), turned ? Math.min(a, b) : Math.max(a, b), machine(),
            settings(), lots.nextBoolean() ? to(0, 200) : ranged(0, 100000), ranged(0, 2)};
    }

    private int[] counts(int[] args, int at) {
        List<Integer> all = new ArrayList<>(Arrays.asList(0, 1, 2, 3, 4));
        java.util.Collections.shuffle(all, lots);
        for (int i = 0; i < 3; i++) args[at + i] = all.get(i);
        if (lots.nextInt(20) == 0) args[at + lots.nextInt(3)] = to(-1, 5);
        return args;
    }

    private int sign() {
        return "nmlgpb0123456789|&<>=+-*/()!- q".charAt(lots.nextInt(31));
    }

    /** RULES anew: a right text, often with one sign put wrong. */
    private void rules() throws Exception {
        call("erase");
        String text = value(3);
        if (text.length() > 40) text = text.substring(0, 40);
        if (lots.nextInt(3) == 0 && !text.isEmpty()) {
            int at = lots.nextInt(text.length());
            text = text.substring(0, at) + (char) sign() + text.substring(Math.min(text.length(), at + to(0, 1)));
        }
        if (lots.nextInt(12) == 0) text = "(".repeat(to(6, 10)) + text;
        for (int i = 0; i < text.length(); i++) call("write", (int) text.charAt(i));
        call("fault");
        call("rung", args("rung"));
    }

    private String value(int deep) {
        int kind = deep == 0 ? 0 : lots.nextInt(10);
        if (kind <= 1) return String.valueOf("nmlgpb".charAt(lots.nextInt(6)));
        if (kind == 2) return String.valueOf(lots.nextInt(9) == 0 ? lots.nextInt(10000000) : lots.nextInt(200));
        if (kind == 3) return "(" + value(deep - 1) + ")";
        if (kind == 4) return (lots.nextBoolean() ? "!" : "-") + value(deep - 1);
        String join = String.valueOf("|&<>=+-*/".charAt(lots.nextInt(9)));
        if (lots.nextInt(5) == 0) join = " " + join;
        return value(deep - 1) + join + value(deep - 1);
    }

    private void call(String name, int... args) throws Exception {
        if (told.size() >= CALLS || wrong > 0) {
            return;
        }
        told.add(name + Arrays.toString(args));
        Object got = real.get(name).invoke(fast, cast(real.get(name), args));
        Object due = modelled.get(name).invoke(model, cast(modelled.get(name), args));
        long plain = ((Number) due).longValue();
        answered.merge(name + (plain < 0 && plain > -5 || plain == -2000000000 ? " " + plain : " +"), 1, Integer::sum);
        if (!got.equals(due)) {
            wrong++;
            for (int i = 0; i < told.size(); i++) System.out.println(i + " " + told.get(i));
            System.out.println("answered " + got + ", due is " + due);
        }
    }

    private static Object[] cast(Method method, int[] args) {
        Object[] all = new Object[args.length];
        for (int i = 0; i < args.length; i++) {
            all[i] = method.getParameterTypes()[i] == boolean.class ? (Object) (args[i] == 1) : (Object) args[i];
        }
        return all;
    }
}
