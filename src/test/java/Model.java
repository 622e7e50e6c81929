import java.util.ArrayList;
import java.util.Arrays;
import java.util.Collections;
import java.util.HashMap;
import java.util.List;
import java.util.Map;
import java.util.TreeMap;

/**
 * The document once more, as plainly as the Java library lets it be said, to hold FastWhy against.
 * An IMAGE is the list of calls made so far; going on from it is making them again.
 */
public final class Model {
    static final int NONE = -1, BAD = -2, NO = -3, FULL = -4;

    static final class Machine {
        final int[] price = {1, 1, 1, 1, 1, 1, 1, 1};
        int lines = 4, wide = 4, miss = 10, many = 4, wrong = 5, drift, burst, oneOf;
        boolean places;
        Map<Integer, Integer> cache = new HashMap<>();
        Map<Integer, Boolean> guesses = new HashMap<>();
    }

    static final class Fault extends Exception {
        private static final long serialVersionUID = 1L;
        final int number;
        Fault(int place, int kind) {
            number = 10 * place + kind;
        }
    }

    interface Call {
        void on(Model model);
    }

    private List<List<int[]>> programs;
    private List<int[]> changes;
    private List<int[]> builds;
    private List<int[]> settings;
    private Machine[] machines;
    private List<int[]> runs;
    private List<Integer> sitting;
    private List<Integer> looks;
    private int o, span;
    private String rules;
    private List<Call> log = new ArrayList<>();
    private final Map<Integer, List<Call>> images = new HashMap<>();

    public Model() {
        clear();
    }

    private void clear() {
        programs = new ArrayList<>();
        changes = new ArrayList<>();
        builds = new ArrayList<>();
        settings = new ArrayList<>();
        machines = new Machine[] {new Machine(), new Machine(), new Machine(), new Machine()};
        runs = new ArrayList<>();
        sitting = new ArrayList<>();
        looks = new ArrayList<>();
        o = 20;
        span = 0;
        rules = "";
    }

    private static boolean in(int v, int low, int high) {
        return low <= v && v <= high;
    }

    private boolean spot(int build, int machine, int setting) {
        return in(build, 0, builds.size() - 1) && in(machine, 0, 3) && in(setting, 0, settings.size() - 1);
    }

    private static boolean lineIsRight(int act, int a, int b, int c) {
        if (!in(act, 0, 7)) return false;
        if (act == 7) return true;
        if (!in(a, 0, 7)) return false;
        if (act == 0) return in(b, -1000, 1000);
        if (act == 6) return in(b, 0, 39);
        if (!in(b, 0, 7)) return false;
        return act >= 4 || in(c, 0, 7);
    }

    public int program() {
        if (programs.size() == 6) return FULL;
        log.add(m -> m.program());
        programs.add(new ArrayList<>());
        return programs.size() - 1;
    }

    public int line(int program, int act, int a, int b, int c) {
        if (!in(program, 0, programs.size() - 1) || !lineIsRight(act, a, b, c)) return BAD;
        for (int[] build : builds) if (build[0] == program) return NO;
        if (programs.get(program).size() == 40) return FULL;
        log.add(m -> m.line(program, act, a, b, c));
        programs.get(program).add(new int[] {act, a, b, c});
        return programs.get(program).size() - 1;
    }

    public int change(int program, int line, int act, int a, int b, int c) {
        if (!in(program, 0, programs.size() - 1)) return BAD;
        if (!in(line, 0, programs.get(program).size() - 1) || !lineIsRight(act, a, b, c)) return BAD;
        if (changes.size() == 10) return FULL;
        log.add(m -> m.change(program, line, act, a, b, c));
        changes.add(new int[] {program, line, act, a, b, c});
        return changes.size() - 1;
    }

    public int build(int program, int bits) {
        if (!in(program, 0, programs.size() - 1) || bits < 0 || bits >= 1 << changes.size()) return BAD;
        for (int i = 0; i < changes.size(); i++) {
            if ((bits & 1 << i) == 0) continue;
            if (changes.get(i)[0] != program) return NO;
            for (int j = 0; j < i; j++) {
                if ((bits & 1 << j) != 0 && changes.get(j)[1] == changes.get(i)[1]) return NO;
            }
        }
        if (builds.size() == 24) return FULL;
        log.add(m -> m.build(program, bits));
        builds.add(new int[] {program, bits});
        return builds.size() - 1;
    }

    public int setting(int r4, int r5, int r6, int r7) {
        for (int r : new int[] {r4, r5, r6, r7}) if (!in(r, -1000, 1000)) return BAD;
        if (settings.size() == 8) return FULL;
        log.add(m -> m.setting(r4, r5, r6, r7));
        settings.add(new int[] {r4, r5, r6, r7});
        return settings.size() - 1;
    }

    public int price(int machine, int act, int v) {
        if (!in(machine, 0, 3) || !in(act, 0, 7) || !in(v, 0, 50)) return BAD;
        log.add(m -> m.price(machine, act, v));
        int was = machines[machine].price[act];
        machines[machine].price[act] = v;
        return was;
    }

    public int cache(int machine, int lines, int wide, int miss) {
        if (!in(machine, 0, 3) || !in(lines, 1, 16) || !in(wide, 1, 8) || !in(miss, 0, 200)) return BAD;
        log.add(m -> m.cache(machine, lines, wide, miss));
        Machine m = machines[machine];
        if (m.lines != lines || m.wide != wide) m.cache = new HashMap<>();
        m.lines = lines;
        m.wide = wide;
        m.miss = miss;
        return 1;
    }

    public int guess(int machine, int many, int wrong) {
        if (!in(machine, 0, 3) || !in(many, 1, 16) || !in(wrong, 0, 100)) return BAD;
        log.add(m -> m.guess(machine, many, wrong));
        Machine m = machines[machine];
        if (m.many != many) m.guesses = new HashMap<>();
        m.many = many;
        m.wrong = wrong;
        return 1;
    }

    public int noise(int machine, int drift, int burst, int oneOf, boolean places) {
        if (!in(machine, 0, 3) || !in(drift, 0, 20) || !in(burst, 0, 1000) || !in(oneOf, 0, 100)) return BAD;
        log.add(m -> m.noise(machine, drift, burst, oneOf, places));
        Machine m = machines[machine];
        m.drift = drift;
        m.burst = burst;
        m.oneOf = oneOf;
        m.places = places;
        return 1;
    }

    /** Goes through lines; answers counts 0 to 5, and 6 whether it is VOID. */
    private int[] gone(int program, int bits, Machine m, int[] setting, int place,
            Map<Integer, Integer> cache, Map<Integer, Boolean> guesses, int noise) {
        List<int[]> code = new ArrayList<>(programs.get(program));
        for (int i = 0; i < changes.size(); i++) {
            int[] change = changes.get(i);
            if ((bits & 1 << i) != 0) code.set(change[1], Arrays.copyOfRange(change, 2, 6));
        }
        int[] r = new int[8];
        System.arraycopy(setting, 0, r, 4, 4);
        int[] memory = new int[64];
        int[] told = new int[7];
        int time = noise;
        int at = 0;
        while (at < code.size()) {
            if (told[0] == 2000) {
                told[6] = 1;
                told[5] = NONE;
                return told;
            }
            told[0]++;
            int[] line = code.get(at);
            time += m.price[line[0]];
            int a = line[1], b = line[2], c = line[3];
            int next = at + 1;
            if (line[0] == 7) next = 1000;
            if (line[0] == 0) r[a] = b;
            if (line[0] == 1) r[a] = r[b] + r[c];
            if (line[0] == 2) r[a] = r[b] - r[c];
            if (line[0] == 3) r[a] = r[b] * r[c];
            if (line[0] == 4 || line[0] == 5) {
                int cell = Math.floorMod(r[b], 64);
                told[1]++;
                int number = (cell + place) / m.wide;
                Integer there = cache.put(number % m.lines, number);
                if (there == null || there != number) {
                    told[2]++;
                    time += m.miss;
                }
                if (line[0] == 4) r[a] = memory[cell]; else memory[cell] = r[a];
            }
            if (line[0] == 6) {
                told[3]++;
                boolean taken = r[a] > 0;
                Boolean said = guesses.put(at % m.many, taken);
                if (taken != (said != null && said)) {
                    told[4]++;
                    time += m.wrong;
                }
                if (taken) next = b;
            }
            at = next;
        }
        told[5] = time;
        return told;
    }

    private static int once(int lot) {
        return (int) (((lot & 0xffffffffL) * 1103515245L + 12345L) & 0xffffffffL);
    }

    private static int bits16(int drawn) {
        return (int) ((drawn & 0xffffffffL) / 65536);
    }

    private int[] cold(int build, int machine, int setting, int lot, int hour, boolean noisy,
            Map<Integer, Integer> cache, Map<Integer, Boolean> guesses) {
        Machine m = machines[machine];
        int place = noisy && m.places ? bits16(once(lot)) % 64 : 0;
        int noise = 0;
        if (noisy) {
            noise = m.drift * hour;
            if (m.oneOf > 0 && bits16(once(once(lot))) % m.oneOf == 0) noise += m.burst;
        }
        int[] b = builds.get(build);
        return gone(b[0], b[1], m, settings.get(setting), place, cache, guesses, noise);
    }

    private int[] plainly(int program, int bits, int machine, int setting) {
        return gone(program, bits, machines[machine], settings.get(setting), 0, new HashMap<>(), new HashMap<>(), 0);
    }

    private int[] plainly(int build, int machine, int setting) {
        return plainly(builds.get(build)[0], builds.get(build)[1], machine, setting);
    }

    public int run(int build, int machine, int setting, int lot, int hour, boolean warm) {
        if (!spot(build, machine, setting) || !in(hour, 0, 23)) return BAD;
        if (runs.size() == 200) return FULL;
        log.add(m -> m.run(build, machine, setting, lot, hour, warm));
        Machine m = machines[machine];
        if (!warm) {
            m.cache.clear();
            m.guesses.clear();
        }
        int[] told = cold(build, machine, setting, lot, hour, true, m.cache, m.guesses);
        int[] kept = Arrays.copyOf(told, 14);
        int[] rest = {build, machine, setting, lot, hour, warm ? 1 : 0, 0};
        System.arraycopy(rest, 0, kept, 7, 7);
        runs.add(kept);
        return runs.size() - 1;
    }

    public int of(int run, int what) {
        if (!in(run, 0, runs.size() - 1) || !in(what, 0, 13)) return -2000000000;
        return runs.get(run)[what];
    }

    public int plain(int build, int machine, int setting, int what) {
        if (!spot(build, machine, setting) || !in(what, 0, 5)) return BAD;
        return plainly(build, machine, setting)[what];
    }

    private List<Integer> times(int build, int machine, int setting, int k) {
        List<Integer> all = new ArrayList<>();
        for (int i = 0; i < Math.min(k, runs.size()); i++) {
            int[] r = runs.get(i);
            if (r[6] == 0 && r[7] == build && r[8] == machine && r[9] == setting) all.add(r[5]);
        }
        Collections.sort(all);
        return all;
    }

    private static int middle(List<Integer> some) {
        List<Integer> s = new ArrayList<>(some);
        Collections.sort(s);
        int n = s.size();
        return n % 2 == 1 ? s.get(n / 2) : (s.get(n / 2 - 1) + s.get(n / 2)) / 2;
    }

    public int figure(int build, int machine, int setting, int k, int what) {
        if (!spot(build, machine, setting) || !in(k, 0, 200) || !in(what, 0, 3)) return BAD;
        List<Integer> t = times(build, machine, setting, k);
        if (what == 0) return t.size();
        if (t.isEmpty()) return NONE;
        return what == 1 ? t.get(0) : what == 2 ? t.get(t.size() - 1) : middle(t);
    }

    public int pair(int old, int other, int machine, int setting, int lot, int hour, boolean newFirst) {
        if (!spot(old, machine, setting) || !spot(other, machine, setting) || !in(hour, 0, 23)) return BAD;
        if (sitting.size() == 16) return NO;
        if (runs.size() > 198) return FULL;
        List<Call> ahead = new ArrayList<>(log);
        int first = run(newFirst ? other : old, machine, setting, lot, hour, false);
        int second = run(newFirst ? old : other, machine, setting, lot, hour, true);
        log = ahead;
        log.add(m -> m.pair(old, other, machine, setting, lot, hour, newFirst));
        int[] o1 = runs.get(newFirst ? second : first);
        int[] n1 = runs.get(newFirst ? first : second);
        if (o1[6] == 0 && n1[6] == 0) sitting.add(n1[5] - o1[5]);
        return sitting.size();
    }

    public int difference(int i) {
        if (i < 0) return -2000000000;
        return i < sitting.size() ? sitting.get(i) : -1000000000;
    }

    public int stand() {
        log.add(m -> m.stand());
        int n = sitting.size();
        sitting.clear();
        return n;
    }

    private int dealt(int n, int what) {
        int is = 0;
        for (int i = 0; i < n; i++) is += sitting.get(i);
        int all = 0;
        for (int way = 0; way < 1 << n; way++) {
            int sum = 0;
            for (int i = 0; i < n; i++) sum += (way >> i & 1) == 0 ? sitting.get(i) : -sitting.get(i);
            if (what == 0 ? sum >= is : sum <= is) all++;
        }
        return all;
    }

    public int odds(int what) {
        return in(what, 0, 1) ? dealt(sitting.size(), what) : BAD;
    }

    public int look(int pairs) {
        if (!in(pairs, 1, 16)) return BAD;
        for (int told : looks) if (told >= pairs) return BAD;
        if (looks.size() == 8) return FULL;
        log.add(m -> m.look(pairs));
        looks.add(pairs);
        return looks.size();
    }

    public int sure(int newO, int newSpan) {
        if (!in(newO, 2, 1000) || !in(newSpan, 0, 10000)) return BAD;
        log.add(m -> m.sure(newO, newSpan));
        o = newO;
        span = newSpan;
        looks.clear();
        return 1;
    }

    public int answer() {
        int last = 0;
        for (int pairs : looks) {
            last = pairs;
            if (pairs > sitting.size()) return 0;
            if ((long) dealt(pairs, 0) * o * looks.size() <= 1 << pairs) return 1;
            if ((long) dealt(pairs, 1) * o * looks.size() <= 1 << pairs) return 2;
        }
        if (last == 0) return 0;
        return in(middle(sitting.subList(0, last)), -span, span) ? 3 : 4;
    }

    private static int far(List<Integer> side) {
        int sum = 0;
        for (int v : side) sum += Math.abs(v - middle(side));
        return sum;
    }

    public int step(int from, int to, int machine, int setting, int slack, int what) {
        if (!spot(from, machine, setting) || !spot(to, machine, setting) || from > to) return BAD;
        if (!in(slack, 0, 100000) || !in(what, 0, 2)) return BAD;
        List<Integer> ids = new ArrayList<>(), middles = new ArrayList<>();
        for (int b = from; b <= to; b++) {
            List<Integer> t = times(b, machine, setting, 200);
            if (!t.isEmpty()) {
                ids.add(b);
                middles.add(middle(t));
            }
        }
        if (ids.size() < 2) return NONE;
        TreeMap<Integer, Integer> costs = new TreeMap<>();
        int n = ids.size();
        for (int i = 1; i < n; i++) costs.put(ids.get(i), far(middles.subList(0, i)) + far(middles.subList(i, n)));
        int least = Collections.min(costs.values());
        int first = -1, bits = 0;
        for (Map.Entry<Integer, Integer> e : costs.entrySet()) {
            if (first < 0 && e.getValue() == least) first = e.getKey();
            if (e.getValue() - least <= slack) bits += 1 << e.getKey();
        }
        return what == 0 ? first : what == 1 ? least : bits;
    }

    public int back(int other, int old, int machine, int setting, int by, int what) {
        if (!spot(old, machine, setting) || !spot(other, machine, setting)) return BAD;
        if (!in(by, 0, 100000) || !in(what, 0, 2)) return BAD;
        int[] n = builds.get(other), b = builds.get(old);
        if (n[0] != b[0]) return NO;
        int[] was = plainly(old, machine, setting);
        if (was[6] == 1) return NO;
        int all = n[1] & ~b[1];
        List<Integer> bring = new ArrayList<>();
        for (int set = 0; set < 1024; set++) {
            if ((set & ~all) != 0) continue;
            int[] is = plainly(n[0], n[1] & ~set, machine, setting);
            if (is[6] == 0 && is[5] - was[5] <= by) bring.add(set);
        }
        int alone = 0;
        List<Integer> least = new ArrayList<>();
        for (int set : bring) {
            if (Integer.bitCount(set) == 1) alone |= set;
            boolean is = true;
            for (int part : bring) if (part != set && (part & set) == part) is = false;
            if (is) least.add(set);
        }
        if (what == 0) return least.size();
        if (what == 2) return alone;
        least.sort((x, y) -> Integer.bitCount(x) != Integer.bitCount(y)
                ? Integer.bitCount(x) - Integer.bitCount(y) : x - y);
        return least.isEmpty() ? NONE : least.get(0);
    }

    private List<int[]> timed(int machine) {
        List<int[]> all = new ArrayList<>();
        for (int[] r : runs) if (r[8] == machine && r[6] == 0) all.add(r);
        return all;
    }

    public long with(int machine, int counter) {
        if (!in(machine, 0, 3) || !in(counter, 0, 4)) return -2000000000000000000L;
        long n = 0, x = 0, y = 0, xy = 0;
        for (int[] r : timed(machine)) {
            n++;
            x += r[counter];
            y += r[5];
            xy += (long) r[counter] * r[5];
        }
        return n * xy - x * y;
    }

    public int keep(int run, boolean out) {
        if (!in(run, 0, runs.size() - 1)) return BAD;
        if (runs.get(run)[13] == 1 == out) return NO;
        log.add(m -> m.keep(run, out));
        runs.get(run)[13] = out ? 1 : 0;
        return 1;
    }

    /** The three COSTS, the sum, FARTHEST. */
    private long[] fitted(int machine, int c0, int c1, int c2) {
        long[] best = null;
        for (int k = 0; k < 13 * 13 * 13; k++) {
            long[] one = {k / 169, k / 13 % 13, k % 13, 0, NONE};
            long most = -1;
            for (int[] r : timed(machine)) {
                if (r[13] == 1) continue;
                long off = Math.abs(r[5] - one[0] * r[c0] - one[1] * r[c1] - one[2] * r[c2]);
                one[3] += off;
                if (off > most) {
                    most = off;
                    one[4] = runs.indexOf(r);
                }
            }
            if (best == null || one[3] < best[3]) best = one;
        }
        return best;
    }

    private static boolean counts(int c0, int c1, int c2) {
        return in(c0, 0, 4) && in(c1, 0, 4) && in(c2, 0, 4) && c0 != c1 && c0 != c2 && c1 != c2;
    }

    public long fit(int machine, int c0, int c1, int c2, int what) {
        if (!in(machine, 0, 3) || !counts(c0, c1, c2) || !in(what, 0, 4)) return BAD;
        return fitted(machine, c0, c1, c2)[what];
    }

    public long foretell(int build, int machine, int setting, int c0, int c1, int c2, int what) {
        if (!spot(build, machine, setting) || !counts(c0, c1, c2) || !in(what, 0, 2)) return -2000000000;
        int[] p = plainly(build, machine, setting);
        if (p[6] == 1) return -1000000000;
        long[] f = fitted(machine, c0, c1, c2);
        long told = f[0] * p[c0] + f[1] * p[c1] + f[2] * p[c2];
        if (what == 0) return told;
        List<Long> off = new ArrayList<>();
        for (int[] r : timed(machine)) {
            if (r[13] == 1) off.add(r[5] - (f[0] * r[c0] + f[1] * r[c1] + f[2] * r[c2]));
        }
        if (off.isEmpty()) return -1000000000;
        return told + (what == 1 ? Collections.min(off) : Collections.max(off));
    }

    public int seek(int build, int machine, int price, int what) {
        if (!in(build, 0, builds.size() - 1) || !in(machine, 0, 3) || !in(price, 0, 1000000) || !in(what, 0, 1)) {
            return BAD;
        }
        int best = NONE, tried = 0, sum = 0, time = Integer.MAX_VALUE;
        for (int s = 0; s < settings.size(); s++) {
            int[] p = plainly(build, machine, s);
            sum += p[6] == 1 ? 2000 : p[5];
            if (sum > price) break;
            tried++;
            if (p[6] == 0 && p[5] < time) {
                time = p[5];
                best = s;
            }
        }
        return what == 0 ? best : tried;
    }

    public int write(int character) {
        if (!in(character, 0, 127)) return BAD;
        if (rules.length() == 40) return FULL;
        log.add(m -> m.write(character));
        rules += (char) character;
        return rules.length();
    }

    public int erase() {
        log.add(m -> m.erase());
        int n = rules.length();
        rules = "";
        return n;
    }

    /** Signs with their places, worked by splitting tokens; the levels are told by what may join them. */
    private static final class Worker {
        private static final String[] JOINS = {"|", "&", "<>=", "+-", "*/"};
        final String text;
        final Map<Character, Long> names;
        int at;
        int open;

        Worker(String text, Map<Character, Long> names) {
            this.text = text;
            this.names = names;
        }

        char next() {
            while (at < text.length() && text.charAt(at) == ' ') at++;
            return at < text.length() ? text.charAt(at) : '\uffff';
        }

        long whole() throws Fault {
            long v = level(0);
            if (next() != '\uffff') throw new Fault(at, 1);
            return v;
        }

        long level(int k) throws Fault {
            if (k == JOINS.length) return unit();
            long v = level(k + 1);
            while (JOINS[k].indexOf(next()) >= 0) {
                char sign = next();
                at++;
                long w = level(k + 1);
                v = joined(sign, v, w);
                if (k == 2) break;
            }
            return v;
        }

        static long joined(char sign, long v, long w) {
            switch (sign) {
                case '|': return v != 0 || w != 0 ? 1 : 0;
                case '&': return v != 0 && w != 0 ? 1 : 0;
                case '<': return v < w ? 1 : 0;
                case '>': return v > w ? 1 : 0;
                case '=': return v == w ? 1 : 0;
                case '+': return v + w;
                case '-': return v - w;
                case '*': return v * w;
                default: return w == 0 ? 0 : v / w;
            }
        }

        long unit() throws Fault {
            char sign = next();
            if (sign >= '0' && sign <= '9') {
                int from = at;
                while (at < text.length() && text.charAt(at) >= '0' && text.charAt(at) <= '9') at++;
                if (at - from > 6) throw new Fault(from, 2);
                return Long.parseLong(text.substring(from, at));
            }
            if (sign == '(') {
                if (open == 8) throw new Fault(at, 3);
                open++;
                at++;
                long v = level(0);
                if (next() != ')') throw new Fault(at, 1);
                at++;
                open--;
                return v;
            }
            if (sign == '!' || sign == '-') {
                at++;
                long v = unit();
                return sign == '-' ? -v : v == 0 ? 1 : 0;
            }
            Long known = names.get(sign);
            if (known == null) throw new Fault(at, 1);
            at++;
            return known;
        }
    }

    private static Map<Character, Long> names(long n, long m, long l, long g, long p, long b) {
        Map<Character, Long> names = new HashMap<>();
        names.put('n', n);
        names.put('m', m);
        names.put('l', l);
        names.put('g', g);
        names.put('p', p);
        names.put('b', b);
        return names;
    }

    public int fault() {
        try {
            new Worker(rules, names(0, 0, 0, 0, 0, 0)).whole();
            return NONE;
        } catch (Fault fault) {
            return fault.number;
        }
    }

    public int rung(int machine, int setting, int k) {
        if (!in(machine, 0, 3) || !in(setting, 0, settings.size() - 1) || !in(k, 0, 200)) return BAD;
        if (fault() != NONE) return NO;
        int bits = 0;
        for (int b = 0; b < builds.size(); b++) {
            List<Integer> t = times(b, machine, setting, k);
            if (t.isEmpty()) continue;
            List<Integer> ahead = times(b - 1, machine, setting, k);
            long p = ahead.isEmpty() ? 0 : middle(ahead);
            try {
                long v = new Worker(rules, names(t.size(), middle(t), t.get(0), t.get(t.size() - 1), p, b)).whole();
                if (v != 0) bits |= 1 << b;
            } catch (Fault fault) {
                return NO;
            }
        }
        return bits;
    }

    public int forge(int run, int v) {
        if (!in(run, 0, runs.size() - 1) || !in(v, 0, 10000000)) return -2000000000;
        if (runs.get(run)[6] == 1) return -2000000000;
        log.add(m -> m.forge(run, v));
        int was = runs.get(run)[5];
        runs.get(run)[5] = v;
        return was;
    }

    public int check() {
        for (int i = 0; i < runs.size(); i++) {
            int[] r = runs.get(i);
            if (r[12] == 1) continue;
            int[] again = cold(r[7], r[8], r[9], r[10], r[11], true, new HashMap<>(), new HashMap<>());
            if (!Arrays.equals(Arrays.copyOf(r, 6), Arrays.copyOf(again, 6))) return i;
        }
        return NONE;
    }

    public int image(int i) {
        if (!in(i, 0, 1)) return BAD;
        images.put(i, new ArrayList<>(log));
        return 1;
    }

    public int from(int i) {
        if (!in(i, 0, 1)) return BAD;
        List<Call> calls = images.get(i);
        if (calls == null) return NO;
        clear();
        log = new ArrayList<>();
        for (Call call : calls) call.on(this);
        return 1;
    }

    public int count(int what) {
        if (!in(what, 0, 8)) return BAD;
        int voids = 0;
        for (int[] r : runs) voids += r[6];
        int[] all = {programs.size(), changes.size(), builds.size(), settings.size(), runs.size(), voids,
            sitting.size(), looks.size(), rules.length()};
        return all[what];
    }

    public long digest() {
        List<Integer> all = new ArrayList<>();
        for (int i = 0; i < 9; i++) all.add(count(i));
        for (int[] r : runs) for (int v : r) all.add(v);
        all.addAll(sitting);
        all.addAll(looks);
        all.add(o);
        all.add(span);
        for (char c : rules.toCharArray()) all.add((int) c);
        for (int[] b : builds) for (int v : b) all.add(v);
        for (Machine m : machines) {
            for (int i = 0; i < m.lines; i++) all.add(m.cache.getOrDefault(i, NONE));
            for (int i = 0; i < m.many; i++) all.add(m.guesses.getOrDefault(i, false) ? 1 : 0);
        }
        long h = 349;
        for (int v : all) h = 31 * h + v;
        return h;
    }
}
